abbrev uX11_best : xU := (RX11, cX11_best, 1, (some .long), [], "best")
theorem bX11_best : xYV yX11_best cX11_best 1 (some .long) 0 := ⟨xq_895, xq_896, xq_2, xq_897, ⟨by decide +kernel, by decide +kernel, by decide +kernel⟩, by decide⟩
theorem mX11_best {l : Launch} {G : xG} (hl : l.stackTraces = false) (x0 : Nat) (h0 : xOb 11 x0) (M : xM) (hM : xcan M) : Cm l G yX11_best cX11_best 1 (some .long) 20 2 0 0 [.ref x0] M (fX11_best x0 M) := by
  refine xcm_of (u := uX11_best) (ls := [some (.ref x0)]) 0 hl rfl (by decide +kernel) (Nat.le_of_ble_eq_true rfl) rfl ?_
  unfold fX11_best
  refine xg_aload_n dX11_best_0 (Eq.refl 1) rfl ?_
  refine xg_getR (k := 3) xcl11 h0 rfl xq_26 rfl (xt_11_3 h0).1 dX11_best_1 (Eq.refl 4) ?_
  refine xg_callV_J (kc := 0) (ks := 0) (st := []) (mX2_bestByBranches hl (xr x0 3) (xt_11_3 h0).2 M hM) bX2_bestByBranches xcl2 (xt_11_3 h0).2 rfl xq_639 rfl (by decide) rfl (by decide) dX11_best_4 (Eq.refl 7) rfl (by decide) (by decide) ?_
  intro z1 M2 hz1 hM2
  exact xg_lret rfl dX11_best_7 rfl hM2 hz1
abbrev uX11_bestByAll : xU := (RX11, cX11_bestByAll, 1, (some .long), [], "bestByAll")
theorem bX11_bestByAll : xYV yX11_bestByAll cX11_bestByAll 1 (some .long) 0 := ⟨xq_903, xq_904, xq_2, xq_905, ⟨by decide +kernel, by decide +kernel, by decide +kernel⟩, by decide⟩
theorem mX11_bestByAll {l : Launch} {G : xG} (hl : l.stackTraces = false) (x0 : Nat) (h0 : xOb 11 x0) (M : xM) (hM : xcan M) : Cm l G yX11_bestByAll cX11_bestByAll 1 (some .long) 7 2 0 0 [.ref x0] M (fX11_bestByAll x0 M) := by
  refine xcm_of (u := uX11_bestByAll) (ls := [some (.ref x0)]) 0 hl rfl (by decide +kernel) (Nat.le_of_ble_eq_true rfl) rfl ?_
  unfold fX11_bestByAll
  refine xg_aload_n dX11_bestByAll_0 (Eq.refl 1) rfl ?_
  refine xg_getR (k := 3) xcl11 h0 rfl xq_26 rfl (xt_11_3 h0).1 dX11_bestByAll_1 (Eq.refl 4) ?_
  refine xg_callV_J (kc := 0) (ks := 0) (st := []) (mX2_bestOfAllSets hl (xr x0 3) (xt_11_3 h0).2 M hM) bX2_bestOfAllSets xcl2 (xt_11_3 h0).2 rfl xq_906 rfl (by decide) rfl (by decide) dX11_bestByAll_4 (Eq.refl 7) rfl (by decide) (by decide) ?_
  intro z1 M2 hz1 hM2
  exact xg_lret rfl dX11_bestByAll_7 rfl hM2 hz1
abbrev uX11_endDay : xU := (RX11, cX11_endDay, 2, (some .int), [], "endDay")
theorem bX11_endDay : xYV yX11_endDay cX11_endDay 2 (some .int) 0 := ⟨xq_919, xq_920, xq_2, xq_921, ⟨by decide +kernel, by decide +kernel, by decide +kernel⟩, by decide⟩
theorem gX11_endDay_18 {l : Launch} {G : xG} (hl : l.stackTraces = false) (x0 : Nat) (h0 : xOb 11 x0) (s0 : Int) (hs0 : B01 s0) (M : xM) (hM : xcan M) : Gv l G uX11_endDay 8 0 1 6 18 [some (.ref x0), none] [iv s0] M (fX11_endDay_18 x0 s0 M) := by
  unfold fX11_endDay_18
  refine xg_callS_N (kc := 0) (ks := 0) (st := []) (mX11_needState hl s0 hs0 M hM) bX11_needState xq_167 rfl (by decide) rfl (by decide) dX11_endDay_18 (Eq.refl 21) rfl (by decide) (by decide) ?_
  intro z1 M2 hz1 hM2
  refine xg_aload_n dX11_endDay_21 (Eq.refl 22) rfl ?_
  refine xg_getR (k := 4) xcl11 h0 rfl xq_30 rfl (xt_11_4 h0).1 dX11_endDay_22 (Eq.refl 25) ?_
  refine xg_callV_N (kc := 0) (ks := 0) (st := []) (mX3_takeTurns hl (xr x0 4) (xt_11_4 h0).2 M2 hM2) bX3_takeTurns xcl3 (xt_11_4 h0).2 rfl xq_922 rfl (by decide) rfl (by decide) dX11_endDay_25 (Eq.refl 28) rfl (by decide) (by decide) ?_
  intro z3 M4 hz3 hM4
  refine xg_aload_n dX11_endDay_28 (Eq.refl 29) rfl ?_
  refine xg_getR (k := 4) xcl11 h0 rfl xq_30 rfl (xt_11_4 h0).1 dX11_endDay_29 (Eq.refl 32) ?_
  refine xg_callV_I (kc := 0) (ks := 0) (st := []) (mX3_tellFinesOfTrades hl (xr x0 4) (xt_11_4 h0).2 M4 hM4) bX3_tellFinesOfTrades xcl3 (xt_11_4 h0).2 rfl xq_1052 rfl (by decide) rfl (by decide) dX11_endDay_32 (Eq.refl 35) rfl (by decide) (by decide) ?_
  intro z5 M6 hz5 hM6
  refine xg_aload_n dX11_endDay_35 (Eq.refl 36) rfl ?_
  refine xg_getR (k := 4) xcl11 h0 rfl xq_30 rfl (xt_11_4 h0).1 dX11_endDay_36 (Eq.refl 39) ?_
  refine xg_callV_I (kc := 0) (ks := 0) (st := [iv z5]) (mX3_tellFinesOfLoans hl (xr x0 4) (xt_11_4 h0).2 M6 hM6) bX3_tellFinesOfLoans xcl3 (xt_11_4 h0).2 rfl xq_1084 rfl (by decide) rfl (Nat.le_of_ble_eq_true rfl) dX11_endDay_39 (Eq.refl 42) rfl (by decide) (by decide) ?_
  intro z7 M8 hz7 hM8
  refine xg_iadd dX11_endDay_42 (Eq.refl 43) ?_
  refine xg_istore_nL (P := R32) (ls2 := fun y9 => [some (.ref x0), some (iv y9)]) dX11_endDay_43 (Eq.refl 44) (by decide) (w32_r _) (fun _ => rfl) ?_
  intro y9 hy9
  refine xg_aload_n dX11_endDay_44 (Eq.refl 45) rfl ?_
  refine xg_getR (k := 4) xcl11 h0 rfl xq_30 rfl (xt_11_4 h0).1 dX11_endDay_45 (Eq.refl 48) ?_
  refine xg_callV_N (kc := 0) (ks := 0) (st := []) (mX3_growOlder hl (xr x0 4) (xt_11_4 h0).2 M8 hM8) bX3_growOlder xcl3 (xt_11_4 h0).2 rfl xq_1092 rfl (by decide) rfl (by decide) dX11_endDay_48 (Eq.refl 51) rfl (by decide) (by decide) ?_
  intro z10 M11 hz10 hM11
  refine xg_aload_n dX11_endDay_51 (Eq.refl 52) rfl ?_
  refine xg_getR (k := 1) xcl11 h0 rfl xq_21 rfl (xt_11_1 h0).1 dX11_endDay_52 (Eq.refl 55) ?_
  refine xg_dup dX11_endDay_55 (Eq.refl 56) rfl ?_
  refine xg_getI (k := 16) xcl1 (xt_11_1 h0).2 rfl xq_386 rfl dX11_endDay_56 (Eq.refl 59) ?_
  refine xg_iconst dX11_endDay_59 (Eq.refl 60) ?_
  refine xg_iadd dX11_endDay_60 (Eq.refl 61) ?_
  refine xg_putI (k := 16) xcl1 (xt_11_1 h0).2 rfl xq_386 rfl (by decide +kernel) dX11_endDay_61 (Eq.refl 64) rfl hM11 (w32_r _) ?_
  intro M12 hM12
  refine xg_iload_n dX11_endDay_64 (Eq.refl 65) rfl ?_
  exact xg_iret rfl dX11_endDay_65 rfl hM12 hy9
theorem mX11_endDay {l : Launch} {G : xG} (hl : l.stackTraces = false) (x0 : Nat) (h0 : xOb 11 x0) (M : xM) (hM : xcan M) : Cm l G yX11_endDay cX11_endDay 2 (some .int) 8 0 1 6 [.ref x0] M (fX11_endDay x0 M) := by
  refine xcm_of (u := uX11_endDay) (ls := [some (.ref x0), none]) 1 hl rfl (by decide +kernel) (Nat.le_of_ble_eq_true rfl) rfl ?_
  unfold fX11_endDay
  refine xg_aload_n dX11_endDay_0 (Eq.refl 1) rfl ?_
  refine xg_getR (k := 1) xcl11 h0 rfl xq_21 rfl (xt_11_1 h0).1 dX11_endDay_1 (Eq.refl 4) ?_
  refine xg_getI (k := 16) xcl1 (xt_11_1 h0).2 rfl xq_386 rfl dX11_endDay_4 (Eq.refl 7) ?_
  refine xg_sipush dX11_endDay_7 (Eq.refl 10) (by decide +kernel) ?_
  refine xg_icmp_ge (tgt := 17) dX11_endDay_10 (Eq.refl 13) (by decide) (hM.I (xt_11_1 h0).2 rfl) (by decide) ?_ ?_
  · refine xg_iconst dX11_endDay_17 (Eq.refl 18) ?_
    exact xg_jump (gX11_endDay_18 hl x0 h0 0 (by decide) M hM) (xsb_s (xsb_n xsb_0)) (by decide) (by decide)
  · refine xg_iconst dX11_endDay_13 (Eq.refl 14) ?_
    refine xg_goto (tgt := 18) dX11_endDay_14 (by decide) ?_
    exact xg_jump (gX11_endDay_18 hl x0 h0 1 (by decide) M hM) (xsb_s (xsb_n xsb_0)) (by decide) (by decide)
abbrev uX11_today : xU := (RX11, cX11_today, 1, (some .int), [], "today")
theorem bX11_today : xYV yX11_today cX11_today 1 (some .int) 0 := ⟨xq_1163, xq_1164, xq_2, xq_1165, ⟨by decide +kernel, by decide +kernel, by decide +kernel⟩, by decide⟩
theorem mX11_today {l : Launch} {G : xG} (hl : l.stackTraces = false) (x0 : Nat) (h0 : xOb 11 x0) (M : xM) (hM : xcan M) : Cm l G yX11_today cX11_today 1 (some .int) 1 0 0 0 [.ref x0] M (fX11_today x0 M) := by
  refine xcm_of (u := uX11_today) (ls := [some (.ref x0)]) 0 hl rfl (by decide +kernel) (Nat.le_of_ble_eq_true rfl) rfl ?_
  unfold fX11_today
  refine xg_aload_n dX11_today_0 (Eq.refl 1) rfl ?_
  refine xg_getR (k := 1) xcl11 h0 rfl xq_21 rfl (xt_11_1 h0).1 dX11_today_1 (Eq.refl 4) ?_
  refine xg_getI (k := 16) xcl1 (xt_11_1 h0).2 rfl xq_386 rfl dX11_today_4 (Eq.refl 7) ?_
  exact xg_iret rfl dX11_today_7 rfl hM (hM.I (xt_11_1 h0).2 rfl)
abbrev uX11_needLoan : xU := (RX11, cX11_needLoan, 2, none, [], "needLoan")
theorem bX11_needLoan : xYV yX11_needLoan cX11_needLoan 2 none 1 := ⟨xq_1181, xq_1182, xq_2, xq_1183, ⟨by decide +kernel, by decide +kernel, by decide +kernel⟩, by decide⟩
theorem mX11_needLoan {l : Launch} {G : xG} (hl : l.stackTraces = false) (x0 : Nat) (h0 : xOb 11 x0) (x1 : Int) (h1 : R32 x1) (M : xM) (hM : xcan M) : Cm l G yX11_needLoan cX11_needLoan 2 none 2 3 1 6 [.ref x0, iv x1] M (fX11_needLoan x0 x1 M) := by
  refine xcm_of (u := uX11_needLoan) (ls := [some (.ref x0), some (iv x1)]) 0 hl rfl (by decide +kernel) (Nat.le_of_ble_eq_true rfl) rfl ?_
  unfold fX11_needLoan
  refine xg_iload_n dX11_needLoan_0 (Eq.refl 1) rfl ?_
  refine xg_aload_n dX11_needLoan_1 (Eq.refl 2) rfl ?_
  refine xg_getR (k := 1) xcl11 h0 rfl xq_21 rfl (xt_11_1 h0).1 dX11_needLoan_2 (Eq.refl 5) ?_
  refine xg_getI (k := 14) xcl1 (xt_11_1 h0).2 rfl xq_1184 rfl dX11_needLoan_5 (Eq.refl 8) ?_
  refine xg_callS_N (kc := 0) (ks := 0) (st := []) (mX11_needIndex hl x1 h1 (M (xr x0 1) 14) (hM.I (xt_11_1 h0).2 rfl) M hM) bX11_needIndex xq_150 rfl (by decide) rfl (by decide) dX11_needLoan_8 (Eq.refl 11) rfl (by decide) (by decide) ?_
  intro z1 M2 hz1 hM2
  exact xg_vret rfl dX11_needLoan_11 rfl hM2
abbrev uX11_recall : xU := (RX11, cX11_recall, 3, (some .long), [], "recall")
theorem bX11_recall : xYV yX11_recall cX11_recall 3 (some .long) 1 := ⟨xq_1174, xq_1175, xq_2, xq_1176, ⟨by decide +kernel, by decide +kernel, by decide +kernel⟩, by decide⟩
theorem gX11_recall_33 {l : Launch} {G : xG} (hl : l.stackTraces = false) (x2 : Nat) (h2 : xOb 7 x2) (s0 : Int) (hs0 : B01 s0) (M : xM) (hM : xcan M) : Gv l G uX11_recall 3 2 1 6 33 [none, none, some (.ref x2)] [iv s0] M (fX11_recall_33 x2 s0 M) := by
  unfold fX11_recall_33
  refine xg_callS_N (kc := 0) (ks := 0) (st := []) (mX11_needState hl s0 hs0 M hM) bX11_needState xq_167 rfl (by decide) rfl (by decide) dX11_recall_33 (Eq.refl 36) rfl (by decide) (by decide) ?_
  intro z1 M2 hz1 hM2
  refine xg_aload_n dX11_recall_36 (Eq.refl 37) rfl ?_
  refine xg_iconst dX11_recall_37 (Eq.refl 38) ?_
  refine xg_putZ (k := 5) xcl7 h2 rfl xq_1178 rfl (by decide +kernel) dX11_recall_38 (Eq.refl 41) rfl hM2 (by decide) ?_
  intro M3 hM3
  refine xg_aload_n dX11_recall_41 (Eq.refl 42) rfl ?_
  refine xg_getJ (k := 3) xcl7 h2 rfl xq_1179 rfl dX11_recall_42 (Eq.refl 45) ?_
  exact xg_lret rfl dX11_recall_45 rfl hM3 (hM3.J h2 rfl)
theorem gX11_recall_32 {l : Launch} {G : xG} (hl : l.stackTraces = false) (x2 : Nat) (h2 : xOb 7 x2) (M : xM) (hM : xcan M) : Gv l G uX11_recall 3 2 1 6 32 [none, none, some (.ref x2)] [] M (fX11_recall_32 x2 M) := by
  unfold fX11_recall_32
  refine xg_iconst dX11_recall_32 (Eq.refl 33) ?_
  exact xg_jump (gX11_recall_33 hl x2 h2 0 (by decide) M hM) (xsb_n (xsb_n (xsb_s xsb_0))) (by decide) (by decide)
theorem mX11_recall {l : Launch} {G : xG} (hl : l.stackTraces = false) (x0 : Nat) (h0 : xOb 11 x0) (x1 : Int) (h1 : R32 x1) (M : xM) (hM : xcan M) : Cm l G yX11_recall cX11_recall 3 (some .long) 3 2 2 12 [.ref x0, iv x1] M (fX11_recall x0 x1 M) := by
  refine xcm_of (u := uX11_recall) (ls := [some (.ref x0), some (iv x1), none]) 1 hl rfl (by decide +kernel) (Nat.le_of_ble_eq_true rfl) rfl ?_
  unfold fX11_recall
  refine xg_aload_n dX11_recall_0 (Eq.refl 1) rfl ?_
  refine xg_iload_n dX11_recall_1 (Eq.refl 2) rfl ?_
  refine xg_callV_N (kc := 1) (ks := 6) (st := []) (mX11_needLoan hl x0 h0 x1 h1 M hM) bX11_needLoan xcl11 h0 rfl xq_1180 rfl (by decide) rfl (by decide) dX11_recall_2 (Eq.refl 5) rfl (by decide) (by decide) ?_
  intro z1 M2 hz1 hM2
  refine xg_aload_n dX11_recall_5 (Eq.refl 6) rfl ?_
  refine xg_getR (k := 1) xcl11 h0 rfl xq_21 rfl (xt_11_1 h0).1 dX11_recall_6 (Eq.refl 9) ?_
  refine xg_iload_n dX11_recall_9 (Eq.refl 10) rfl ?_
  refine xg_callV_R (cr := 7) (kc := 1) (ks := 6) (st := []) (mX1_loanAt hl (xr x0 1) (xt_11_1 h0).2 x1 h1 M2 hM2) bX1_loanAt xcl1 (xt_11_1 h0).2 rfl xq_1185 rfl (by decide) rfl (by decide) dX11_recall_10 (Eq.refl 13) rfl (by decide) (by decide) ?_
  intro z3 M4 hz3 hM4
  refine xg_astore_n (ls2 := [some (.ref x0), some (iv x1), some (.ref z3.toNat)]) dX11_recall_13 (Eq.refl 14) (by decide) rfl ?_
  refine xg_aload_n dX11_recall_14 (Eq.refl 15) rfl ?_
  refine xg_getZ (k := 6) xcl7 hz3 rfl xq_1177 rfl dX11_recall_15 (Eq.refl 18) hM4 ?_
  refine xg_if_ne (tgt := 32) dX11_recall_18 (Eq.refl 21) (by decide) (B01.r (hM4.Z hz3 rfl)) ?_ ?_
  · refine xg_aload_n dX11_recall_21 (Eq.refl 22) rfl ?_
    refine xg_getZ (k := 5) xcl7 hz3 rfl xq_1178 rfl dX11_recall_22 (Eq.refl 25) hM4 ?_
    refine xg_if_ne (tgt := 32) dX11_recall_25 (Eq.refl 28) (by decide) (B01.r (hM4.Z hz3 rfl)) ?_ ?_
    · refine xg_iconst dX11_recall_28 (Eq.refl 29) ?_
      refine xg_goto (tgt := 33) dX11_recall_29 (by decide) ?_
      exact xg_jump (gX11_recall_33 hl z3.toNat hz3 1 (by decide) M4 hM4) (xsb_n (xsb_n (xsb_s xsb_0))) (by decide) (by decide)
    · exact xg_jump (gX11_recall_32 hl z3.toNat hz3 M4 hM4) (xsb_n (xsb_n (xsb_s xsb_0))) (by decide) (by decide)
  · exact xg_jump (gX11_recall_32 hl z3.toNat hz3 M4 hM4) (xsb_n (xsb_n (xsb_s xsb_0))) (by decide) (by decide)
abbrev uX11_keep : xU := (RX11, cX11_keep, 1, (some .int), [], "keep")
theorem bX11_keep : xYV yX11_keep cX11_keep 1 (some .int) 0 := ⟨xq_1195, xq_1196, xq_2, xq_1197, ⟨by decide +kernel, by decide +kernel, by decide +kernel⟩, by decide⟩
theorem mX11_keep {l : Launch} {G : xG} (hl : l.stackTraces = false) (x0 : Nat) (h0 : xOb 11 x0) (M : xM) (hM : xcan M) : Cm l G yX11_keep cX11_keep 1 (some .int) 4 0 0 0 [.ref x0] M (fX11_keep x0 M) := by
  refine xcm_of (u := uX11_keep) (ls := [some (.ref x0)]) 0 hl rfl (by decide +kernel) (Nat.le_of_ble_eq_true rfl) rfl ?_
  unfold fX11_keep
  refine xg_aload_n dX11_keep_0 (Eq.refl 1) rfl ?_
  refine xg_getR (k := 2) xcl11 h0 rfl xq_22 rfl (xt_11_2 h0).1 dX11_keep_1 (Eq.refl 4) ?_
  refine xg_aload_n dX11_keep_4 (Eq.refl 5) rfl ?_
  refine xg_getR (k := 1) xcl11 h0 rfl xq_21 rfl (xt_11_1 h0).1 dX11_keep_5 (Eq.refl 8) ?_
  refine xg_callV_N (kc := 0) (ks := 0) (st := []) (mX1_copyFrom hl (xr x0 2) (xt_11_2 h0).2 (xr x0 1) (xt_11_1 h0).2 M hM) bX1_copyFrom xcl1 (xt_11_2 h0).2 rfl xq_1198 rfl (by decide) rfl (by decide) dX11_keep_8 (Eq.refl 11) rfl (by decide) (by decide) ?_
  intro z1 M2 hz1 hM2
  refine xg_aload_n dX11_keep_11 (Eq.refl 12) rfl ?_
  refine xg_iconst dX11_keep_12 (Eq.refl 13) ?_
  refine xg_putZ (k := 5) xcl11 h0 rfl xq_31 rfl (by decide +kernel) dX11_keep_13 (Eq.refl 16) rfl hM2 (by decide) ?_
  intro M3 hM3
  refine xg_aload_n dX11_keep_16 (Eq.refl 17) rfl ?_
  refine xg_getR (k := 1) xcl11 h0 rfl xq_21 rfl (xt_11_1 h0).1 dX11_keep_17 (Eq.refl 20) ?_
  refine xg_getI (k := 16) xcl1 (xt_11_1 h0).2 rfl xq_386 rfl dX11_keep_20 (Eq.refl 23) ?_
  exact xg_iret rfl dX11_keep_23 rfl hM3 (hM3.I (xt_11_1 h0).2 rfl)
abbrev uX11_goBack : xU := (RX11, cX11_goBack, 1, (some .int), [], "goBack")
theorem bX11_goBack : xYV yX11_goBack cX11_goBack 1 (some .int) 0 := ⟨xq_1291, xq_1292, xq_2, xq_1293, ⟨by decide +kernel, by decide +kernel, by decide +kernel⟩, by decide⟩
theorem mX11_goBack {l : Launch} {G : xG} (hl : l.stackTraces = false) (x0 : Nat) (h0 : xOb 11 x0) (M : xM) (hM : xcan M) : Cm l G yX11_goBack cX11_goBack 1 (some .int) 4 0 1 6 [.ref x0] M (fX11_goBack x0 M) := by
  refine xcm_of (u := uX11_goBack) (ls := [some (.ref x0)]) 0 hl rfl (by decide +kernel) (Nat.le_of_ble_eq_true rfl) rfl ?_
  unfold fX11_goBack
  refine xg_aload_n dX11_goBack_0 (Eq.refl 1) rfl ?_
  refine xg_getZ (k := 5) xcl11 h0 rfl xq_31 rfl dX11_goBack_1 (Eq.refl 4) hM ?_
  refine xg_callS_N (kc := 0) (ks := 0) (st := []) (mX11_needState hl (M x0 5) (hM.Z h0 rfl) M hM) bX11_needState xq_167 rfl (by decide) rfl (by decide) dX11_goBack_4 (Eq.refl 7) rfl (by decide) (by decide) ?_
  intro z1 M2 hz1 hM2
  refine xg_aload_n dX11_goBack_7 (Eq.refl 8) rfl ?_
  refine xg_getR (k := 1) xcl11 h0 rfl xq_21 rfl (xt_11_1 h0).1 dX11_goBack_8 (Eq.refl 11) ?_
  refine xg_aload_n dX11_goBack_11 (Eq.refl 12) rfl ?_
  refine xg_getR (k := 2) xcl11 h0 rfl xq_22 rfl (xt_11_2 h0).1 dX11_goBack_12 (Eq.refl 15) ?_
  refine xg_callV_N (kc := 0) (ks := 0) (st := []) (mX1_copyFrom hl (xr x0 1) (xt_11_1 h0).2 (xr x0 2) (xt_11_2 h0).2 M2 hM2) bX1_copyFrom xcl1 (xt_11_1 h0).2 rfl xq_1198 rfl (by decide) rfl (by decide) dX11_goBack_15 (Eq.refl 18) rfl (by decide) (by decide) ?_
  intro z3 M4 hz3 hM4
  refine xg_aload_n dX11_goBack_18 (Eq.refl 19) rfl ?_
  refine xg_getR (k := 1) xcl11 h0 rfl xq_21 rfl (xt_11_1 h0).1 dX11_goBack_19 (Eq.refl 22) ?_
  refine xg_getI (k := 16) xcl1 (xt_11_1 h0).2 rfl xq_386 rfl dX11_goBack_22 (Eq.refl 25) ?_
  exact xg_iret rfl dX11_goBack_25 rfl hM4 (hM4.I (xt_11_1 h0).2 rfl)
abbrev uX11_announce : xU := (RX11, cX11_announce, 10, (some .int), [], "announce")
theorem bX11_announce : xYV yX11_announce cX11_announce 10 (some .int) 7 := ⟨xq_1302, xq_1303, xq_2, xq_1304, ⟨by decide +kernel, by decide +kernel, by decide +kernel⟩, by decide⟩
theorem gX11_announce_104 {l : Launch} {G : xG} (hl : l.stackTraces = false) (x0 : Nat) (h0 : xOb 11 x0) (x1 : Int) (h1 : R32 x1) (x2 : Int) (h2 : R32 x2) (x3 : Int) (h3 : R32 x3) (x4 : Int) (h4 : R32 x4) (x5 : Int) (h5 : R32 x5) (x6 : Int) (h6 : R32 x6) (x7 : Int) (h7 : R32 x7) (s0 : Int) (hs0 : B01 s0) (M : xM) (hM : xcan M) : Gv l G uX11_announce 3 0 1 6 104 [some (.ref x0), some (iv x1), some (iv x2), some (iv x3), some (iv x4), some (iv x5), some (iv x6), some (iv x7), none, none] [iv s0] M (fX11_announce_104 x0 x1 x2 x3 x4 x5 x6 x7 s0 M) := by
  unfold fX11_announce_104
  refine xg_callS_N (kc := 0) (ks := 0) (st := []) (mX11_needState hl s0 hs0 M hM) bX11_needState xq_167 rfl (by decide) rfl (by decide) dX11_announce_104 (Eq.refl 107) rfl (by decide) (by decide) ?_
  intro z1 M2 hz1 hM2
  refine xg_aload_n dX11_announce_107 (Eq.refl 108) rfl ?_
  refine xg_getR (k := 1) xcl11 h0 rfl xq_21 rfl (xt_11_1 h0).1 dX11_announce_108 (Eq.refl 111) ?_
  refine xg_getI (k := 15) xcl1 (xt_11_1 h0).2 rfl xq_1305 rfl dX11_announce_111 (Eq.refl 114) ?_
  refine xg_istore (ls2 := [some (.ref x0), some (iv x1), some (iv x2), some (iv x3), some (iv x4), some (iv x5), some (iv x6), some (iv x7), some (iv (M2 (xr x0 1) 15)), none]) dX11_announce_114 (Eq.refl 116) (by decide) rfl ?_
  refine xg_aload_n dX11_announce_116 (Eq.refl 117) rfl ?_
  refine xg_getR (k := 1) xcl11 h0 rfl xq_21 rfl (xt_11_1 h0).1 dX11_announce_117 (Eq.refl 120) ?_
  refine xg_iload dX11_announce_120 (Eq.refl 122) rfl ?_
  refine xg_callV_R (cr := 4) (kc := 0) (ks := 0) (st := []) (mX1_event hl (xr x0 1) (xt_11_1 h0).2 (M2 (xr x0 1) 15) (hM2.I (xt_11_1 h0).2 rfl) M2 hM2) bX1_event xcl1 (xt_11_1 h0).2 rfl xq_1313 rfl (by decide) rfl (by decide) dX11_announce_122 (Eq.refl 125) rfl (by decide) (by decide) ?_
  intro z3 M4 hz3 hM4
  refine xg_astore (ls2 := [some (.ref x0), some (iv x1), some (iv x2), some (iv x3), some (iv x4), some (iv x5), some (iv x6), some (iv x7), some (iv (M2 (xr x0 1) 15)), some (.ref z3.toNat)]) dX11_announce_125 (Eq.refl 127) (by decide) rfl ?_
  refine xg_aload dX11_announce_127 (Eq.refl 129) rfl ?_
  refine xg_iload_n dX11_announce_129 (Eq.refl 130) rfl ?_
  refine xg_putI (k := 0) xcl4 hz3 rfl xq_1306 rfl (by decide +kernel) dX11_announce_130 (Eq.refl 133) rfl hM4 h1 ?_
  intro M5 hM5
  refine xg_aload dX11_announce_133 (Eq.refl 135) rfl ?_
  refine xg_iload_n dX11_announce_135 (Eq.refl 136) rfl ?_
  refine xg_putI (k := 1) xcl4 hz3 rfl xq_1307 rfl (by decide +kernel) dX11_announce_136 (Eq.refl 139) rfl hM5 h2 ?_
  intro M6 hM6
  refine xg_aload dX11_announce_139 (Eq.refl 141) rfl ?_
  refine xg_iload_n dX11_announce_141 (Eq.refl 142) rfl ?_
  refine xg_putI (k := 2) xcl4 hz3 rfl xq_1308 rfl (by decide +kernel) dX11_announce_142 (Eq.refl 145) rfl hM6 h3 ?_
  intro M7 hM7
  refine xg_aload dX11_announce_145 (Eq.refl 147) rfl ?_
  refine xg_iload dX11_announce_147 (Eq.refl 149) rfl ?_
  refine xg_putI (k := 3) xcl4 hz3 rfl xq_1309 rfl (by decide +kernel) dX11_announce_149 (Eq.refl 152) rfl hM7 h4 ?_
  intro M8 hM8
  refine xg_aload dX11_announce_152 (Eq.refl 154) rfl ?_
  refine xg_iload dX11_announce_154 (Eq.refl 156) rfl ?_
  refine xg_putI (k := 4) xcl4 hz3 rfl xq_1310 rfl (by decide +kernel) dX11_announce_156 (Eq.refl 159) rfl hM8 h5 ?_
  intro M9 hM9
  refine xg_aload dX11_announce_159 (Eq.refl 161) rfl ?_
  refine xg_iload dX11_announce_161 (Eq.refl 163) rfl ?_
  refine xg_putI (k := 5) xcl4 hz3 rfl xq_1311 rfl (by decide +kernel) dX11_announce_163 (Eq.refl 166) rfl hM9 h6 ?_
  intro M10 hM10
  refine xg_aload dX11_announce_166 (Eq.refl 168) rfl ?_
  refine xg_iload dX11_announce_168 (Eq.refl 170) rfl ?_
  refine xg_putI (k := 6) xcl4 hz3 rfl xq_1312 rfl (by decide +kernel) dX11_announce_170 (Eq.refl 173) rfl hM10 h7 ?_
  intro M11 hM11
  refine xg_aload_n dX11_announce_173 (Eq.refl 174) rfl ?_
  refine xg_getR (k := 1) xcl11 h0 rfl xq_21 rfl (xt_11_1 h0).1 dX11_announce_174 (Eq.refl 177) ?_
  refine xg_iload dX11_announce_177 (Eq.refl 179) rfl ?_
  refine xg_iconst dX11_announce_179 (Eq.refl 180) ?_
  refine xg_iadd dX11_announce_180 (Eq.refl 181) ?_
  refine xg_putI (k := 15) xcl1 (xt_11_1 h0).2 rfl xq_1305 rfl (by decide +kernel) dX11_announce_181 (Eq.refl 184) rfl hM11 (w32_r _) ?_
  intro M12 hM12
  refine xg_iload dX11_announce_184 (Eq.refl 186) rfl ?_
  exact xg_iret rfl dX11_announce_186 rfl hM12 (hM2.I (xt_11_1 h0).2 rfl)
theorem gX11_announce_62 {l : Launch} {G : xG} (hl : l.stackTraces = false) (x0 : Nat) (h0 : xOb 11 x0) (x1 : Int) (h1 : R32 x1) (x2 : Int) (h2 : R32 x2) (x3 : Int) (h3 : R32 x3) (x4 : Int) (h4 : R32 x4) (x5 : Int) (h5 : R32 x5) (x6 : Int) (h6 : R32 x6) (x7 : Int) (h7 : R32 x7) (M : xM) (hM : xcan M) : Gv l G uX11_announce 3 0 3 18 62 [some (.ref x0), some (iv x1), some (iv x2), some (iv x3), some (iv x4), some (iv x5), some (iv x6), some (iv x7), none, none] [] M (fX11_announce_62 x0 x1 x2 x3 x4 x5 x6 x7 M) := by
  unfold fX11_announce_62
  refine xg_iload dX11_announce_62 (Eq.refl 64) rfl ?_
  refine xg_aload_n dX11_announce_64 (Eq.refl 65) rfl ?_
  refine xg_getR (k := 1) xcl11 h0 rfl xq_21 rfl (xt_11_1 h0).1 dX11_announce_65 (Eq.refl 68) ?_
  refine xg_getI (k := 16) xcl1 (xt_11_1 h0).2 rfl xq_386 rfl dX11_announce_68 (Eq.refl 71) ?_
  refine xg_sipush dX11_announce_71 (Eq.refl 74) (by decide +kernel) ?_
  refine xg_callS_N (kc := 2) (ks := 12) (st := []) (mX11_needRange hl x6 h6 (M (xr x0 1) 16) (hM.I (xt_11_1 h0).2 rfl) 2000 (by decide) M hM) bX11_needRange xq_155 rfl (by decide) rfl (by decide) dX11_announce_74 (Eq.refl 77) rfl (by decide) (by decide) ?_
  intro z1 M2 hz1 hM2
  refine xg_iload dX11_announce_77 (Eq.refl 79) rfl ?_
  refine xg_iload dX11_announce_79 (Eq.refl 81) rfl ?_
  refine xg_sipush dX11_announce_81 (Eq.refl 84) (by decide +kernel) ?_
  refine xg_callS_N (kc := 1) (ks := 6) (st := []) (mX11_needRange hl x7 h7 x6 h6 2000 (by decide) M2 hM2) bX11_needRange xq_155 rfl (by decide) rfl (by decide) dX11_announce_84 (Eq.refl 87) rfl (by decide) (by decide) ?_
  intro z3 M4 hz3 hM4
  refine xg_aload_n dX11_announce_87 (Eq.refl 88) rfl ?_
  refine xg_getR (k := 1) xcl11 h0 rfl xq_21 rfl (xt_11_1 h0).1 dX11_announce_88 (Eq.refl 91) ?_
  refine xg_getI (k := 15) xcl1 (xt_11_1 h0).2 rfl xq_1305 rfl dX11_announce_91 (Eq.refl 94) ?_
  refine xg_bipush dX11_announce_94 (Eq.refl 96) (by decide +kernel) ?_
  refine xg_icmp_ge (tgt := 103) dX11_announce_96 (Eq.refl 99) (by decide) (hM4.I (xt_11_1 h0).2 rfl) (by decide) ?_ ?_
  · refine xg_iconst dX11_announce_103 (Eq.refl 104) ?_
    exact xg_jump (gX11_announce_104 hl x0 h0 x1 h1 x2 h2 x3 h3 x4 h4 x5 h5 x6 h6 x7 h7 0 (by decide) M4 hM4) (xsb_s (xsb_s (xsb_s (xsb_s (xsb_s (xsb_s (xsb_s (xsb_s (xsb_n (xsb_n xsb_0)))))))))) (by decide) (by decide)
  · refine xg_iconst dX11_announce_99 (Eq.refl 100) ?_
    refine xg_goto (tgt := 104) dX11_announce_100 (by decide) ?_
    exact xg_jump (gX11_announce_104 hl x0 h0 x1 h1 x2 h2 x3 h3 x4 h4 x5 h5 x6 h6 x7 h7 1 (by decide) M4 hM4) (xsb_s (xsb_s (xsb_s (xsb_s (xsb_s (xsb_s (xsb_s (xsb_s (xsb_n (xsb_n xsb_0)))))))))) (by decide) (by decide)
theorem gX11_announce_49 {l : Launch} {G : xG} (hl : l.stackTraces = false) (x0 : Nat) (h0 : xOb 11 x0) (x1 : Int) (h1 : R32 x1) (x2 : Int) (h2 : R32 x2) (x3 : Int) (h3 : R32 x3) (x4 : Int) (h4 : R32 x4) (x5 : Int) (h5 : R32 x5) (x6 : Int) (h6 : R32 x6) (x7 : Int) (h7 : R32 x7) (M : xM) (hM : xcan M) : Gv l G uX11_announce 3 0 4 24 49 [some (.ref x0), some (iv x1), some (iv x2), some (iv x3), some (iv x4), some (iv x5), some (iv x6), some (iv x7), none, none] [] M (fX11_announce_49 x0 x1 x2 x3 x4 x5 x6 x7 M) := by
  unfold fX11_announce_49
  refine xg_iload_n dX11_announce_49 (Eq.refl 50) rfl ?_
  refine xg_iconst dX11_announce_50 (Eq.refl 51) ?_
  refine xg_icmp_ne (tgt := 62) dX11_announce_51 (Eq.refl 54) (by decide) h1 (by decide) ?_ ?_
  · refine xg_iload dX11_announce_54 (Eq.refl 56) rfl ?_
    refine xg_iconst dX11_announce_56 (Eq.refl 57) ?_
    refine xg_ldc (z := 100000) xq_251 dX11_announce_57 (Eq.refl 59) (by decide +kernel) ?_
    refine xg_callS_N (kc := 3) (ks := 18) (st := []) (mX11_needRange hl x5 h5 0 (by decide) 100000 (by decide) M hM) bX11_needRange xq_155 rfl (by decide) rfl (by decide) dX11_announce_59 (Eq.refl 62) rfl (by decide) (by decide) ?_
    intro z1 M2 hz1 hM2
    exact xg_jump (gX11_announce_62 hl x0 h0 x1 h1 x2 h2 x3 h3 x4 h4 x5 h5 x6 h6 x7 h7 M2 hM2) (xsb_s (xsb_s (xsb_s (xsb_s (xsb_s (xsb_s (xsb_s (xsb_s (xsb_n (xsb_n xsb_0)))))))))) (by decide) (by decide)
  · exact xg_jump (gX11_announce_62 hl x0 h0 x1 h1 x2 h2 x3 h3 x4 h4 x5 h5 x6 h6 x7 h7 M hM) (xsb_s (xsb_s (xsb_s (xsb_s (xsb_s (xsb_s (xsb_s (xsb_s (xsb_n (xsb_n xsb_0)))))))))) (by decide) (by decide)
theorem gX11_announce_46 {l : Launch} {G : xG} (hl : l.stackTraces = false) (x0 : Nat) (h0 : xOb 11 x0) (x1 : Int) (h1 : R32 x1) (x2 : Int) (h2 : R32 x2) (x3 : Int) (h3 : R32 x3) (x4 : Int) (h4 : R32 x4) (x5 : Int) (h5 : R32 x5) (x6 : Int) (h6 : R32 x6) (x7 : Int) (h7 : R32 x7) (s0 : Int) (hs0 : R32 s0) (s1 : Int) (hs1 : B01 s1) (s2 : Int) (hs2 : R32 s2) (M : xM) (hM : xcan M) : Gv l G uX11_announce 3 0 5 30 46 [some (.ref x0), some (iv x1), some (iv x2), some (iv x3), some (iv x4), some (iv x5), some (iv x6), some (iv x7), none, none] [iv s0, iv s1, iv s2] M (fX11_announce_46 x0 x1 x2 x3 x4 x5 x6 x7 s0 s1 s2 M) := by
  unfold fX11_announce_46
  refine xg_callS_N (kc := 4) (ks := 24) (st := []) (mX11_needRange hl s2 hs2 s1 (B01.r hs1) s0 hs0 M hM) bX11_needRange xq_155 rfl (by decide) rfl (by decide) dX11_announce_46 (Eq.refl 49) rfl (by decide) (by decide) ?_
  intro z1 M2 hz1 hM2
  exact xg_jump (gX11_announce_49 hl x0 h0 x1 h1 x2 h2 x3 h3 x4 h4 x5 h5 x6 h6 x7 h7 M2 hM2) (xsb_s (xsb_s (xsb_s (xsb_s (xsb_s (xsb_s (xsb_s (xsb_s (xsb_n (xsb_n xsb_0)))))))))) (by decide) (by decide)
theorem gX11_announce_25 {l : Launch} {G : xG} (hl : l.stackTraces = false) (x0 : Nat) (h0 : xOb 11 x0) (x1 : Int) (h1 : R32 x1) (x2 : Int) (h2 : R32 x2) (x3 : Int) (h3 : R32 x3) (x4 : Int) (h4 : R32 x4) (x5 : Int) (h5 : R32 x5) (x6 : Int) (h6 : R32 x6) (x7 : Int) (h7 : R32 x7) (s0 : Int) (hs0 : R32 s0) (s1 : Int) (hs1 : B01 s1) (s2 : Int) (hs2 : R32 s2) (M : xM) (hM : xcan M) : Gv l G uX11_announce 3 0 6 36 25 [some (.ref x0), some (iv x1), some (iv x2), some (iv x3), some (iv x4), some (iv x5), some (iv x6), some (iv x7), none, none] [iv s0, iv s1, iv s2] M (fX11_announce_25 x0 x1 x2 x3 x4 x5 x6 x7 s0 s1 s2 M) := by
  unfold fX11_announce_25
  refine xg_callS_N (kc := 5) (ks := 30) (st := []) (mX11_needRange hl s2 hs2 s1 (B01.r hs1) s0 hs0 M hM) bX11_needRange xq_155 rfl (by decide) rfl (by decide) dX11_announce_25 (Eq.refl 28) rfl (by decide) (by decide) ?_
  intro z1 M2 hz1 hM2
  refine xg_iload_n dX11_announce_28 (Eq.refl 29) rfl ?_
  refine xg_if_eq (tgt := 49) dX11_announce_29 (Eq.refl 32) (by decide) h1 ?_ ?_
  · exact xg_jump (gX11_announce_49 hl x0 h0 x1 h1 x2 h2 x3 h3 x4 h4 x5 h5 x6 h6 x7 h7 M2 hM2) (xsb_s (xsb_s (xsb_s (xsb_s (xsb_s (xsb_s (xsb_s (xsb_s (xsb_n (xsb_n xsb_0)))))))))) (by decide) (by decide)
  · refine xg_iload dX11_announce_32 (Eq.refl 34) rfl ?_
    refine xg_iconst dX11_announce_34 (Eq.refl 35) ?_
    refine xg_iload_n dX11_announce_35 (Eq.refl 36) rfl ?_
    refine xg_iconst dX11_announce_36 (Eq.refl 37) ?_
    refine xg_icmp_ne (tgt := 44) dX11_announce_37 (Eq.refl 40) (by decide) h1 (by decide) ?_ ?_
    · refine xg_iconst dX11_announce_40 (Eq.refl 41) ?_
      refine xg_goto (tgt := 46) dX11_announce_41 (by decide) ?_
      exact xg_jump (gX11_announce_46 hl x0 h0 x1 h1 x2 h2 x3 h3 x4 h4 x5 h5 x6 h6 x7 h7 3 (by decide) 1 (by decide) x4 h4 M2 hM2) (xsb_s (xsb_s (xsb_s (xsb_s (xsb_s (xsb_s (xsb_s (xsb_s (xsb_n (xsb_n xsb_0)))))))))) (by decide) (by decide)
    · refine xg_bipush dX11_announce_44 (Eq.refl 46) (by decide +kernel) ?_
      exact xg_jump (gX11_announce_46 hl x0 h0 x1 h1 x2 h2 x3 h3 x4 h4 x5 h5 x6 h6 x7 h7 10 (by decide) 1 (by decide) x4 h4 M2 hM2) (xsb_s (xsb_s (xsb_s (xsb_s (xsb_s (xsb_s (xsb_s (xsb_s (xsb_n (xsb_n xsb_0)))))))))) (by decide) (by decide)
theorem mX11_announce {l : Launch} {G : xG} (hl : l.stackTraces = false) (x0 : Nat) (h0 : xOb 11 x0) (x1 : Int) (h1 : R32 x1) (x2 : Int) (h2 : R32 x2) (x3 : Int) (h3 : R32 x3) (x4 : Int) (h4 : R32 x4) (x5 : Int) (h5 : R32 x5) (x6 : Int) (h6 : R32 x6) (x7 : Int) (h7 : R32 x7) (M : xM) (hM : xcan M) : Cm l G yX11_announce cX11_announce 10 (some .int) 3 0 8 48 [.ref x0, iv x1, iv x2, iv x3, iv x4, iv x5, iv x6, iv x7] M (fX11_announce x0 x1 x2 x3 x4 x5 x6 x7 M) := by
  refine xcm_of (u := uX11_announce) (ls := [some (.ref x0), some (iv x1), some (iv x2), some (iv x3), some (iv x4), some (iv x5), some (iv x6), some (iv x7), none, none]) 2 hl rfl (by decide +kernel) (Nat.le_of_ble_eq_true rfl) rfl ?_
  unfold fX11_announce
  refine xg_aload_n dX11_announce_0 (Eq.refl 1) rfl ?_
  refine xg_iload_n dX11_announce_1 (Eq.refl 2) rfl ?_
  refine xg_callV_N (kc := 7) (ks := 42) (st := []) (mX11_needSecurity hl x0 h0 x2 h2 M hM) bX11_needSecurity xcl11 h0 rfl xq_285 rfl (by decide) rfl (by decide) dX11_announce_2 (Eq.refl 5) rfl (by decide) (by decide) ?_
  intro z1 M2 hz1 hM2
  refine xg_iload_n dX11_announce_5 (Eq.refl 6) rfl ?_
  refine xg_iconst dX11_announce_6 (Eq.refl 7) ?_
  refine xg_iconst dX11_announce_7 (Eq.refl 8) ?_
  refine xg_callS_N (kc := 6) (ks := 36) (st := []) (mX11_needRange hl x1 h1 0 (by decide) 2 (by decide) M2 hM2) bX11_needRange xq_155 rfl (by decide) rfl (by decide) dX11_announce_8 (Eq.refl 11) rfl (by decide) (by decide) ?_
  intro z3 M4 hz3 hM4
  refine xg_iload_n dX11_announce_11 (Eq.refl 12) rfl ?_
  refine xg_iconst dX11_announce_12 (Eq.refl 13) ?_
  refine xg_iload_n dX11_announce_13 (Eq.refl 14) rfl ?_
  refine xg_iconst dX11_announce_14 (Eq.refl 15) ?_
  refine xg_icmp_ne (tgt := 22) dX11_announce_15 (Eq.refl 18) (by decide) h1 (by decide) ?_ ?_
  · refine xg_iconst dX11_announce_18 (Eq.refl 19) ?_
    refine xg_goto (tgt := 25) dX11_announce_19 (by decide) ?_
    exact xg_jump (gX11_announce_25 hl x0 h0 x1 h1 x2 h2 x3 h3 x4 h4 x5 h5 x6 h6 x7 h7 3 (by decide) 1 (by decide) x3 h3 M4 hM4) (xsb_s (xsb_s (xsb_s (xsb_s (xsb_s (xsb_s (xsb_s (xsb_s (xsb_n (xsb_n xsb_0)))))))))) (by decide) (by decide)
  · refine xg_sipush dX11_announce_22 (Eq.refl 25) (by decide +kernel) ?_
    exact xg_jump (gX11_announce_25 hl x0 h0 x1 h1 x2 h2 x3 h3 x4 h4 x5 h5 x6 h6 x7 h7 1000 (by decide) 1 (by decide) x3 h3 M4 hM4) (xsb_s (xsb_s (xsb_s (xsb_s (xsb_s (xsb_s (xsb_s (xsb_s (xsb_n (xsb_n xsb_0)))))))))) (by decide) (by decide)
abbrev uX11_needEvent : xU := (RX11, cX11_needEvent, 2, none, [], "needEvent")
theorem bX11_needEvent : xYV yX11_needEvent cX11_needEvent 2 none 1 := ⟨xq_1328, xq_1329, xq_2, xq_1330, ⟨by decide +kernel, by decide +kernel, by decide +kernel⟩, by decide⟩
theorem mX11_needEvent {l : Launch} {G : xG} (hl : l.stackTraces = false) (x0 : Nat) (h0 : xOb 11 x0) (x1 : Int) (h1 : R32 x1) (M : xM) (hM : xcan M) : Cm l G yX11_needEvent cX11_needEvent 2 none 2 3 1 6 [.ref x0, iv x1] M (fX11_needEvent x0 x1 M) := by
  refine xcm_of (u := uX11_needEvent) (ls := [some (.ref x0), some (iv x1)]) 0 hl rfl (by decide +kernel) (Nat.le_of_ble_eq_true rfl) rfl ?_
  unfold fX11_needEvent
  refine xg_iload_n dX11_needEvent_0 (Eq.refl 1) rfl ?_
  refine xg_aload_n dX11_needEvent_1 (Eq.refl 2) rfl ?_
  refine xg_getR (k := 1) xcl11 h0 rfl xq_21 rfl (xt_11_1 h0).1 dX11_needEvent_2 (Eq.refl 5) ?_
  refine xg_getI (k := 15) xcl1 (xt_11_1 h0).2 rfl xq_1305 rfl dX11_needEvent_5 (Eq.refl 8) ?_
  refine xg_callS_N (kc := 0) (ks := 0) (st := []) (mX11_needIndex hl x1 h1 (M (xr x0 1) 15) (hM.I (xt_11_1 h0).2 rfl) M hM) bX11_needIndex xq_150 rfl (by decide) rfl (by decide) dX11_needEvent_8 (Eq.refl 11) rfl (by decide) (by decide) ?_
  intro z1 M2 hz1 hM2
  exact xg_vret rfl dX11_needEvent_11 rfl hM2
abbrev uX11_elect : xU := (RX11, cX11_elect, 7, (some .long), [], "elect")
theorem bX11_elect : xYV yX11_elect cX11_elect 7 (some .long) 3 := ⟨xq_1322, xq_1323, xq_2, xq_1324, ⟨by decide +kernel, by decide +kernel, by decide +kernel⟩, by decide⟩
theorem gX11_elect_82 {l : Launch} {G : xG} (hl : l.stackTraces = false) (x1 : Int) (h1 : R32 x1) (x3 : Int) (h3 : R32 x3) (x4 : Nat) (h4 : xOb 4 x4) (s0 : Int) (hs0 : B01 s0) (M : xM) (hM : xcan M) : Gv l G uX11_elect 3 2 1 6 82 [none, some (iv x1), none, some (iv x3), some (.ref x4), none, none] [iv s0] M (fX11_elect_82 x1 x3 x4 s0 M) := by
  unfold fX11_elect_82
  refine xg_callS_N (kc := 0) (ks := 0) (st := []) (mX11_needState hl s0 hs0 M hM) bX11_needState xq_167 rfl (by decide) rfl (by decide) dX11_elect_82 (Eq.refl 85) rfl (by decide) (by decide) ?_
  intro z1 M2 hz1 hM2
  refine xg_aload dX11_elect_85 (Eq.refl 87) rfl ?_
  refine xg_iload_n dX11_elect_87 (Eq.refl 88) rfl ?_
  refine xg_callV_J (kc := 0) (ks := 0) (st := []) (mX4_electedOf hl x4 h4 x1 h1 M2 hM2) bX4_electedOf xcl4 h4 rfl xq_1332 rfl (by decide) rfl (by decide) dX11_elect_88 (Eq.refl 91) rfl (by decide) (by decide) ?_
  intro z3 M4 hz3 hM4
  refine xg_lstore (ls2 := [none, some (iv x1), none, some (iv x3), some (.ref x4), some (jv z3), none]) dX11_elect_91 (Eq.refl 93) (by decide) rfl ?_
  refine xg_aload dX11_elect_93 (Eq.refl 95) rfl ?_
  refine xg_iload_n dX11_elect_95 (Eq.refl 96) rfl ?_
  refine xg_iload_n dX11_elect_96 (Eq.refl 97) rfl ?_
  refine xg_i2l dX11_elect_97 (Eq.refl 98) h3 ?_
  refine xg_callV_N (kc := 0) (ks := 0) (st := []) (mX4_setElected hl x4 h4 x1 h1 x3 (R32.j h3) M4 hM4) bX4_setElected xcl4 h4 rfl xq_1333 rfl (by decide) rfl (by decide) dX11_elect_98 (Eq.refl 101) rfl (by decide) (by decide) ?_
  intro z5 M6 hz5 hM6
  refine xg_lload dX11_elect_101 (Eq.refl 103) rfl ?_
  exact xg_lret rfl dX11_elect_103 rfl hM6 hz3
theorem gX11_elect_62 {l : Launch} {G : xG} (hl : l.stackTraces = false) (x1 : Int) (h1 : R32 x1) (x3 : Int) (h3 : R32 x3) (x4 : Nat) (h4 : xOb 4 x4) (s0 : Int) (hs0 : B01 s0) (M : xM) (hM : xcan M) : Gv l G uX11_elect 3 2 2 12 62 [none, some (iv x1), none, some (iv x3), some (.ref x4), none, none] [iv s0] M (fX11_elect_62 x1 x3 x4 s0 M) := by
  unfold fX11_elect_62
  refine xg_callS_N (kc := 1) (ks := 6) (st := []) (mX11_needState hl s0 hs0 M hM) bX11_needState xq_167 rfl (by decide) rfl (by decide) dX11_elect_62 (Eq.refl 65) rfl (by decide) (by decide) ?_
  intro z1 M2 hz1 hM2
  refine xg_iload_n dX11_elect_65 (Eq.refl 66) rfl ?_
  refine xg_i2l dX11_elect_66 (Eq.refl 67) h3 ?_
  refine xg_aload dX11_elect_67 (Eq.refl 69) rfl ?_
  refine xg_iload_n dX11_elect_69 (Eq.refl 70) rfl ?_
  refine xg_callV_J (kc := 1) (ks := 6) (st := [jv x3]) (mX4_entitledOf hl x4 h4 x1 h1 M2 hM2) bX4_entitledOf xcl4 h4 rfl xq_1331 rfl (by decide) rfl (Nat.le_of_ble_eq_true rfl) dX11_elect_70 (Eq.refl 73) rfl (by decide) (by decide) ?_
  intro z3 M4 hz3 hM4
  refine xg_lif_gt (tgt := 81) dX11_elect_73 (Eq.refl 74) dX11_elect_74 (Eq.refl 77) (by decide) (R32.j h3) hz3 ?_ ?_
  · refine xg_iconst dX11_elect_81 (Eq.refl 82) ?_
    exact xg_jump (gX11_elect_82 hl x1 h1 x3 h3 x4 h4 0 (by decide) M4 hM4) (xsb_n (xsb_s (xsb_n (xsb_s (xsb_s (xsb_n (xsb_n xsb_0))))))) (by decide) (by decide)
  · refine xg_iconst dX11_elect_77 (Eq.refl 78) ?_
    refine xg_goto (tgt := 82) dX11_elect_78 (by decide) ?_
    exact xg_jump (gX11_elect_82 hl x1 h1 x3 h3 x4 h4 1 (by decide) M4 hM4) (xsb_n (xsb_s (xsb_n (xsb_s (xsb_s (xsb_n (xsb_n xsb_0))))))) (by decide) (by decide)
theorem gX11_elect_61 {l : Launch} {G : xG} (hl : l.stackTraces = false) (x1 : Int) (h1 : R32 x1) (x3 : Int) (h3 : R32 x3) (x4 : Nat) (h4 : xOb 4 x4) (M : xM) (hM : xcan M) : Gv l G uX11_elect 3 2 2 12 61 [none, some (iv x1), none, some (iv x3), some (.ref x4), none, none] [] M (fX11_elect_61 x1 x3 x4 M) := by
  unfold fX11_elect_61
  refine xg_iconst dX11_elect_61 (Eq.refl 62) ?_
  exact xg_jump (gX11_elect_62 hl x1 h1 x3 h3 x4 h4 0 (by decide) M hM) (xsb_n (xsb_s (xsb_n (xsb_s (xsb_s (xsb_n (xsb_n xsb_0))))))) (by decide) (by decide)
theorem gX11_elect_19 {l : Launch} {G : xG} (hl : l.stackTraces = false) (x0 : Nat) (h0 : xOb 11 x0) (x1 : Int) (h1 : R32 x1) (x2 : Int) (h2 : R32 x2) (x3 : Int) (h3 : R32 x3) (s0 : Int) (hs0 : B01 s0) (M : xM) (hM : xcan M) : Gv l G uX11_elect 3 2 3 18 19 [some (.ref x0), some (iv x1), some (iv x2), some (iv x3), none, none, none] [iv s0] M (fX11_elect_19 x0 x1 x2 x3 s0 M) := by
  unfold fX11_elect_19
  refine xg_callS_N (kc := 2) (ks := 12) (st := []) (mX11_needArgument hl s0 hs0 M hM) bX11_needArgument xq_158 rfl (by decide) rfl (by decide) dX11_elect_19 (Eq.refl 22) rfl (by decide) (by decide) ?_
  intro z1 M2 hz1 hM2
  refine xg_aload_n dX11_elect_22 (Eq.refl 23) rfl ?_
  refine xg_getR (k := 1) xcl11 h0 rfl xq_21 rfl (xt_11_1 h0).1 dX11_elect_23 (Eq.refl 26) ?_
  refine xg_iload_n dX11_elect_26 (Eq.refl 27) rfl ?_
  refine xg_callV_R (cr := 4) (kc := 2) (ks := 12) (st := []) (mX1_event hl (xr x0 1) (xt_11_1 h0).2 x2 h2 M2 hM2) bX1_event xcl1 (xt_11_1 h0).2 rfl xq_1313 rfl (by decide) rfl (by decide) dX11_elect_27 (Eq.refl 30) rfl (by decide) (by decide) ?_
  intro z3 M4 hz3 hM4
  refine xg_astore (ls2 := [some (.ref x0), some (iv x1), some (iv x2), some (iv x3), some (.ref z3.toNat), none, none]) dX11_elect_30 (Eq.refl 32) (by decide) rfl ?_
  refine xg_aload dX11_elect_32 (Eq.refl 34) rfl ?_
  refine xg_getI (k := 0) xcl4 hz3 rfl xq_1306 rfl dX11_elect_34 (Eq.refl 37) ?_
  refine xg_iconst dX11_elect_37 (Eq.refl 38) ?_
  refine xg_icmp_ne (tgt := 61) dX11_elect_38 (Eq.refl 41) (by decide) (hM4.I hz3 rfl) (by decide) ?_ ?_
  · refine xg_aload dX11_elect_41 (Eq.refl 43) rfl ?_
    refine xg_getZ (k := 7) xcl4 hz3 rfl xq_1325 rfl dX11_elect_43 (Eq.refl 46) hM4 ?_
    refine xg_if_eq (tgt := 61) dX11_elect_46 (Eq.refl 49) (by decide) (B01.r (hM4.Z hz3 rfl)) ?_ ?_
    · exact xg_jump (gX11_elect_61 hl x1 h1 x3 h3 z3.toNat hz3 M4 hM4) (xsb_n (xsb_s (xsb_n (xsb_s (xsb_s (xsb_n (xsb_n xsb_0))))))) (by decide) (by decide)
    · refine xg_aload dX11_elect_49 (Eq.refl 51) rfl ?_
      refine xg_getZ (k := 8) xcl4 hz3 rfl xq_1326 rfl dX11_elect_51 (Eq.refl 54) hM4 ?_
      refine xg_if_ne (tgt := 61) dX11_elect_54 (Eq.refl 57) (by decide) (B01.r (hM4.Z hz3 rfl)) ?_ ?_
      · refine xg_iconst dX11_elect_57 (Eq.refl 58) ?_
        refine xg_goto (tgt := 62) dX11_elect_58 (by decide) ?_
        exact xg_jump (gX11_elect_62 hl x1 h1 x3 h3 z3.toNat hz3 1 (by decide) M4 hM4) (xsb_n (xsb_s (xsb_n (xsb_s (xsb_s (xsb_n (xsb_n xsb_0))))))) (by decide) (by decide)
      · exact xg_jump (gX11_elect_61 hl x1 h1 x3 h3 z3.toNat hz3 M4 hM4) (xsb_n (xsb_s (xsb_n (xsb_s (xsb_s (xsb_n (xsb_n xsb_0))))))) (by decide) (by decide)
  · exact xg_jump (gX11_elect_61 hl x1 h1 x3 h3 z3.toNat hz3 M4 hM4) (xsb_n (xsb_s (xsb_n (xsb_s (xsb_s (xsb_n (xsb_n xsb_0))))))) (by decide) (by decide)
theorem mX11_elect {l : Launch} {G : xG} (hl : l.stackTraces = false) (x0 : Nat) (h0 : xOb 11 x0) (x1 : Int) (h1 : R32 x1) (x2 : Int) (h2 : R32 x2) (x3 : Int) (h3 : R32 x3) (M : xM) (hM : xcan M) : Cm l G yX11_elect cX11_elect 7 (some .long) 3 2 5 30 [.ref x0, iv x1, iv x2, iv x3] M (fX11_elect x0 x1 x2 x3 M) := by
  refine xcm_of (u := uX11_elect) (ls := [some (.ref x0), some (iv x1), some (iv x2), some (iv x3), none, none, none]) 3 hl rfl (by decide +kernel) (Nat.le_of_ble_eq_true rfl) rfl ?_
  unfold fX11_elect
  refine xg_aload_n dX11_elect_0 (Eq.refl 1) rfl ?_
  refine xg_iload_n dX11_elect_1 (Eq.refl 2) rfl ?_
  refine xg_callV_N (kc := 4) (ks := 24) (st := []) (mX11_needAccount hl x0 h0 x1 h1 M hM) bX11_needAccount xcl11 h0 rfl xq_146 rfl (by decide) rfl (by decide) dX11_elect_2 (Eq.refl 5) rfl (by decide) (by decide) ?_
  intro z1 M2 hz1 hM2
  refine xg_aload_n dX11_elect_5 (Eq.refl 6) rfl ?_
  refine xg_iload_n dX11_elect_6 (Eq.refl 7) rfl ?_
  refine xg_callV_N (kc := 3) (ks := 18) (st := []) (mX11_needEvent hl x0 h0 x2 h2 M2 hM2) bX11_needEvent xcl11 h0 rfl xq_1327 rfl (by decide) rfl (by decide) dX11_elect_7 (Eq.refl 10) rfl (by decide) (by decide) ?_
  intro z3 M4 hz3 hM4
  refine xg_iload_n dX11_elect_10 (Eq.refl 11) rfl ?_
  refine xg_if_lt (tgt := 18) dX11_elect_11 (Eq.refl 14) (by decide) h3 ?_ ?_
  · refine xg_iconst dX11_elect_18 (Eq.refl 19) ?_
    exact xg_jump (gX11_elect_19 hl x0 h0 x1 h1 x2 h2 x3 h3 0 (by decide) M4 hM4) (xsb_s (xsb_s (xsb_s (xsb_s (xsb_n (xsb_n (xsb_n xsb_0))))))) (by decide) (by decide)
  · refine xg_iconst dX11_elect_14 (Eq.refl 15) ?_
    refine xg_goto (tgt := 19) dX11_elect_15 (by decide) ?_
    exact xg_jump (gX11_elect_19 hl x0 h0 x1 h1 x2 h2 x3 h3 1 (by decide) M4 hM4) (xsb_s (xsb_s (xsb_s (xsb_s (xsb_n (xsb_n (xsb_n xsb_0))))))) (by decide) (by decide)
abbrev uX11_entitled : xU := (RX11, cX11_entitled, 4, (some .long), [], "entitled")
theorem bX11_entitled : xYV yX11_entitled cX11_entitled 4 (some .long) 2 := ⟨xq_1349, xq_1350, xq_2, xq_1351, ⟨by decide +kernel, by decide +kernel, by decide +kernel⟩, by decide⟩
theorem mX11_entitled {l : Launch} {G : xG} (hl : l.stackTraces = false) (x0 : Nat) (h0 : xOb 11 x0) (x1 : Int) (h1 : R32 x1) (x2 : Int) (h2 : R32 x2) (M : xM) (hM : xcan M) : Cm l G yX11_entitled cX11_entitled 4 (some .long) 3 2 2 12 [.ref x0, iv x1, iv x2] M (fX11_entitled x0 x1 x2 M) := by
  refine xcm_of (u := uX11_entitled) (ls := [some (.ref x0), some (iv x1), some (iv x2), none]) 1 hl rfl (by decide +kernel) (Nat.le_of_ble_eq_true rfl) rfl ?_
  unfold fX11_entitled
  refine xg_aload_n dX11_entitled_0 (Eq.refl 1) rfl ?_
  refine xg_iload_n dX11_entitled_1 (Eq.refl 2) rfl ?_
  refine xg_callV_N (kc := 1) (ks := 6) (st := []) (mX11_needEvent hl x0 h0 x1 h1 M hM) bX11_needEvent xcl11 h0 rfl xq_1327 rfl (by decide) rfl (by decide) dX11_entitled_2 (Eq.refl 5) rfl (by decide) (by decide) ?_
  intro z1 M2 hz1 hM2
  refine xg_aload_n dX11_entitled_5 (Eq.refl 6) rfl ?_
  refine xg_iload_n dX11_entitled_6 (Eq.refl 7) rfl ?_
  refine xg_callV_N (kc := 0) (ks := 0) (st := []) (mX11_needAccount hl x0 h0 x2 h2 M2 hM2) bX11_needAccount xcl11 h0 rfl xq_146 rfl (by decide) rfl (by decide) dX11_entitled_7 (Eq.refl 10) rfl (by decide) (by decide) ?_
  intro z3 M4 hz3 hM4
  refine xg_aload_n dX11_entitled_10 (Eq.refl 11) rfl ?_
  refine xg_getR (k := 1) xcl11 h0 rfl xq_21 rfl (xt_11_1 h0).1 dX11_entitled_11 (Eq.refl 14) ?_
  refine xg_iload_n dX11_entitled_14 (Eq.refl 15) rfl ?_
  refine xg_callV_R (cr := 4) (kc := 0) (ks := 0) (st := []) (mX1_event hl (xr x0 1) (xt_11_1 h0).2 x1 h1 M4 hM4) bX1_event xcl1 (xt_11_1 h0).2 rfl xq_1313 rfl (by decide) rfl (by decide) dX11_entitled_15 (Eq.refl 18) rfl (by decide) (by decide) ?_
  intro z5 M6 hz5 hM6
  refine xg_astore_n (ls2 := [some (.ref x0), some (iv x1), some (iv x2), some (.ref z5.toNat)]) dX11_entitled_18 (Eq.refl 19) (by decide) rfl ?_
  refine xg_aload_n dX11_entitled_19 (Eq.refl 20) rfl ?_
  refine xg_getZ (k := 7) xcl4 hz5 rfl xq_1325 rfl dX11_entitled_20 (Eq.refl 23) hM6 ?_
  refine xg_if_eq (tgt := 34) dX11_entitled_23 (Eq.refl 26) (by decide) (B01.r (hM6.Z hz5 rfl)) ?_ ?_
  · refine xg_ldc2 (z := (-1)) xq_1352 dX11_entitled_34 (Eq.refl 37) (by decide +kernel) ?_
    exact xg_lret rfl dX11_entitled_37 rfl hM6 (by decide)
  · refine xg_aload_n dX11_entitled_26 (Eq.refl 27) rfl ?_
    refine xg_iload_n dX11_entitled_27 (Eq.refl 28) rfl ?_
    refine xg_callV_J (kc := 0) (ks := 0) (st := []) (mX4_entitledOf hl z5.toNat hz5 x2 h2 M6 hM6) bX4_entitledOf xcl4 hz5 rfl xq_1331 rfl (by decide) rfl (by decide) dX11_entitled_28 (Eq.refl 31) rfl (by decide) (by decide) ?_
    intro z7 M8 hz7 hM8
    refine xg_goto (tgt := 37) dX11_entitled_31 (by decide) ?_
    exact xg_lret rfl dX11_entitled_37 rfl hM8 hz7
abbrev uX11_entitledAnew : xU := (RX11, cX11_entitledAnew, 4, (some .long), [], "entitledAnew")
theorem bX11_entitledAnew : xYV yX11_entitledAnew cX11_entitledAnew 4 (some .long) 2 := ⟨xq_1361, xq_1362, xq_2, xq_1363, ⟨by decide +kernel, by decide +kernel, by decide +kernel⟩, by decide⟩
theorem mX11_entitledAnew {l : Launch} {G : xG} (hl : l.stackTraces = false) (x0 : Nat) (h0 : xOb 11 x0) (x1 : Int) (h1 : R32 x1) (x2 : Int) (h2 : R32 x2) (M : xM) (hM : xcan M) : Cm l G yX11_entitledAnew cX11_entitledAnew 4 (some .long) 3 2 2 12 [.ref x0, iv x1, iv x2] M (fX11_entitledAnew x0 x1 x2 M) := by
  refine xcm_of (u := uX11_entitledAnew) (ls := [some (.ref x0), some (iv x1), some (iv x2), none]) 1 hl rfl (by decide +kernel) (Nat.le_of_ble_eq_true rfl) rfl ?_
  unfold fX11_entitledAnew
  refine xg_aload_n dX11_entitledAnew_0 (Eq.refl 1) rfl ?_
  refine xg_iload_n dX11_entitledAnew_1 (Eq.refl 2) rfl ?_
  refine xg_callV_N (kc := 1) (ks := 6) (st := []) (mX11_needEvent hl x0 h0 x1 h1 M hM) bX11_needEvent xcl11 h0 rfl xq_1327 rfl (by decide) rfl (by decide) dX11_entitledAnew_2 (Eq.refl 5) rfl (by decide) (by decide) ?_
  intro z1 M2 hz1 hM2
  refine xg_aload_n dX11_entitledAnew_5 (Eq.refl 6) rfl ?_
  refine xg_iload_n dX11_entitledAnew_6 (Eq.refl 7) rfl ?_
  refine xg_callV_N (kc := 0) (ks := 0) (st := []) (mX11_needAccount hl x0 h0 x2 h2 M2 hM2) bX11_needAccount xcl11 h0 rfl xq_146 rfl (by decide) rfl (by decide) dX11_entitledAnew_7 (Eq.refl 10) rfl (by decide) (by decide) ?_
  intro z3 M4 hz3 hM4
  refine xg_aload_n dX11_entitledAnew_10 (Eq.refl 11) rfl ?_
  refine xg_getR (k := 1) xcl11 h0 rfl xq_21 rfl (xt_11_1 h0).1 dX11_entitledAnew_11 (Eq.refl 14) ?_
  refine xg_iload_n dX11_entitledAnew_14 (Eq.refl 15) rfl ?_
  refine xg_callV_R (cr := 4) (kc := 0) (ks := 0) (st := []) (mX1_event hl (xr x0 1) (xt_11_1 h0).2 x1 h1 M4 hM4) bX1_event xcl1 (xt_11_1 h0).2 rfl xq_1313 rfl (by decide) rfl (by decide) dX11_entitledAnew_15 (Eq.refl 18) rfl (by decide) (by decide) ?_
  intro z5 M6 hz5 hM6
  refine xg_astore_n (ls2 := [some (.ref x0), some (iv x1), some (iv x2), some (.ref z5.toNat)]) dX11_entitledAnew_18 (Eq.refl 19) (by decide) rfl ?_
  refine xg_aload_n dX11_entitledAnew_19 (Eq.refl 20) rfl ?_
  refine xg_getZ (k := 7) xcl4 hz5 rfl xq_1325 rfl dX11_entitledAnew_20 (Eq.refl 23) hM6 ?_
  refine xg_if_eq (tgt := 48) dX11_entitledAnew_23 (Eq.refl 26) (by decide) (B01.r (hM6.Z hz5 rfl)) ?_ ?_
  · refine xg_ldc2 (z := (-1)) xq_1352 dX11_entitledAnew_48 (Eq.refl 51) (by decide +kernel) ?_
    exact xg_lret rfl dX11_entitledAnew_51 rfl hM6 (by decide)
  · refine xg_aload_n dX11_entitledAnew_26 (Eq.refl 27) rfl ?_
    refine xg_getR (k := 1) xcl11 h0 rfl xq_21 rfl (xt_11_1 h0).1 dX11_entitledAnew_27 (Eq.refl 30) ?_
    refine xg_iload_n dX11_entitledAnew_30 (Eq.refl 31) rfl ?_
    refine xg_callV_R (cr := 0) (kc := 0) (ks := 0) (st := []) (mX1_account hl (xr x0 1) (xt_11_1 h0).2 x2 h2 M6 hM6) bX1_account xcl1 (xt_11_1 h0).2 rfl xq_163 rfl (by decide) rfl (by decide) dX11_entitledAnew_31 (Eq.refl 34) rfl (by decide) (by decide) ?_
    intro z7 M8 hz7 hM8
    refine xg_aload_n dX11_entitledAnew_34 (Eq.refl 35) rfl ?_
    refine xg_getI (k := 9) xcl4 hz5 rfl xq_1364 rfl dX11_entitledAnew_35 (Eq.refl 38) ?_
    refine xg_aload_n dX11_entitledAnew_38 (Eq.refl 39) rfl ?_
    refine xg_getI (k := 1) xcl4 hz5 rfl xq_1307 rfl dX11_entitledAnew_39 (Eq.refl 42) ?_
    refine xg_callV_J (kc := 0) (ks := 0) (st := []) (mX0_movedUpTo hl z7.toNat hz7 (M8 z5.toNat 9) (hM8.I hz5 rfl) (M8 z5.toNat 1) (hM8.I hz5 rfl) M8 hM8) bX0_movedUpTo xcl0 hz7 rfl xq_1365 rfl (by decide) rfl (by decide) dX11_entitledAnew_42 (Eq.refl 45) rfl (by decide) (by decide) ?_
    intro z9 M10 hz9 hM10
    refine xg_goto (tgt := 51) dX11_entitledAnew_45 (by decide) ?_
    exact xg_lret rfl dX11_entitledAnew_51 rfl hM10 hz9
abbrev uX11_isPaid : xU := (RX11, cX11_isPaid, 2, (some .boolean), [], "isPaid")
theorem bX11_isPaid : xYV yX11_isPaid cX11_isPaid 2 (some .boolean) 1 := ⟨xq_1378, xq_1379, xq_2, xq_1380, ⟨by decide +kernel, by decide +kernel, by decide +kernel⟩, by decide⟩
theorem mX11_isPaid {l : Launch} {G : xG} (hl : l.stackTraces = false) (x0 : Nat) (h0 : xOb 11 x0) (x1 : Int) (h1 : R32 x1) (M : xM) (hM : xcan M) : Cm l G yX11_isPaid cX11_isPaid 2 (some .boolean) 3 1 1 6 [.ref x0, iv x1] M (fX11_isPaid x0 x1 M) := by
  refine xcm_of (u := uX11_isPaid) (ls := [some (.ref x0), some (iv x1)]) 0 hl rfl (by decide +kernel) (Nat.le_of_ble_eq_true rfl) rfl ?_
  unfold fX11_isPaid
  refine xg_aload_n dX11_isPaid_0 (Eq.refl 1) rfl ?_
  refine xg_iload_n dX11_isPaid_1 (Eq.refl 2) rfl ?_
  refine xg_callV_N (kc := 0) (ks := 0) (st := []) (mX11_needEvent hl x0 h0 x1 h1 M hM) bX11_needEvent xcl11 h0 rfl xq_1327 rfl (by decide) rfl (by decide) dX11_isPaid_2 (Eq.refl 5) rfl (by decide) (by decide) ?_
  intro z1 M2 hz1 hM2
  refine xg_aload_n dX11_isPaid_5 (Eq.refl 6) rfl ?_
  refine xg_getR (k := 1) xcl11 h0 rfl xq_21 rfl (xt_11_1 h0).1 dX11_isPaid_6 (Eq.refl 9) ?_
  refine xg_iload_n dX11_isPaid_9 (Eq.refl 10) rfl ?_
  refine xg_callV_R (cr := 4) (kc := 0) (ks := 0) (st := []) (mX1_event hl (xr x0 1) (xt_11_1 h0).2 x1 h1 M2 hM2) bX1_event xcl1 (xt_11_1 h0).2 rfl xq_1313 rfl (by decide) rfl (by decide) dX11_isPaid_10 (Eq.refl 13) rfl (by decide) (by decide) ?_
  intro z3 M4 hz3 hM4
  refine xg_getZ (k := 8) xcl4 hz3 rfl xq_1326 rfl dX11_isPaid_13 (Eq.refl 16) hM4 ?_
  exact xg_zret rfl dX11_isPaid_16 rfl hM4 (hM4.Z hz3 rfl)
abbrev uX11_units : xU := (RX11, cX11_units, 3, (some .long), [], "units")
theorem bX11_units : xYV yX11_units cX11_units 3 (some .long) 2 := ⟨xq_1389, xq_1390, xq_2, xq_1391, ⟨by decide +kernel, by decide +kernel, by decide +kernel⟩, by decide⟩
theorem mX11_units {l : Launch} {G : xG} (hl : l.stackTraces = false) (x0 : Nat) (h0 : xOb 11 x0) (x1 : Int) (h1 : R32 x1) (x2 : Int) (h2 : R32 x2) (M : xM) (hM : xcan M) : Cm l G yX11_units cX11_units 3 (some .long) 3 2 2 12 [.ref x0, iv x1, iv x2] M (fX11_units x0 x1 x2 M) := by
  refine xcm_of (u := uX11_units) (ls := [some (.ref x0), some (iv x1), some (iv x2)]) 0 hl rfl (by decide +kernel) (Nat.le_of_ble_eq_true rfl) rfl ?_
  unfold fX11_units
  refine xg_aload_n dX11_units_0 (Eq.refl 1) rfl ?_
  refine xg_iload_n dX11_units_1 (Eq.refl 2) rfl ?_
  refine xg_callV_N (kc := 1) (ks := 6) (st := []) (mX11_needAccount hl x0 h0 x1 h1 M hM) bX11_needAccount xcl11 h0 rfl xq_146 rfl (by decide) rfl (by decide) dX11_units_2 (Eq.refl 5) rfl (by decide) (by decide) ?_
  intro z1 M2 hz1 hM2
  refine xg_aload_n dX11_units_5 (Eq.refl 6) rfl ?_
  refine xg_iload_n dX11_units_6 (Eq.refl 7) rfl ?_
  refine xg_callV_N (kc := 0) (ks := 0) (st := []) (mX11_needSecurity hl x0 h0 x2 h2 M2 hM2) bX11_needSecurity xcl11 h0 rfl xq_285 rfl (by decide) rfl (by decide) dX11_units_7 (Eq.refl 10) rfl (by decide) (by decide) ?_
  intro z3 M4 hz3 hM4
  refine xg_aload_n dX11_units_10 (Eq.refl 11) rfl ?_
  refine xg_getR (k := 1) xcl11 h0 rfl xq_21 rfl (xt_11_1 h0).1 dX11_units_11 (Eq.refl 14) ?_
  refine xg_iload_n dX11_units_14 (Eq.refl 15) rfl ?_
  refine xg_callV_R (cr := 0) (kc := 0) (ks := 0) (st := []) (mX1_account hl (xr x0 1) (xt_11_1 h0).2 x1 h1 M4 hM4) bX1_account xcl1 (xt_11_1 h0).2 rfl xq_163 rfl (by decide) rfl (by decide) dX11_units_15 (Eq.refl 18) rfl (by decide) (by decide) ?_
  intro z5 M6 hz5 hM6
  refine xg_iload_n dX11_units_18 (Eq.refl 19) rfl ?_
  refine xg_callV_J (kc := 0) (ks := 0) (st := []) (mX0_heldOf hl z5.toNat hz5 x2 h2 M6 hM6) bX0_heldOf xcl0 hz5 rfl xq_304 rfl (by decide) rfl (by decide) dX11_units_19 (Eq.refl 22) rfl (by decide) (by decide) ?_
  intro z7 M8 hz7 hM8
  exact xg_lret rfl dX11_units_22 rfl hM8 hz7
abbrev uX11_free : xU := (RX11, cX11_free, 3, (some .long), [], "free")
theorem bX11_free : xYV yX11_free cX11_free 3 (some .long) 2 := ⟨xq_1404, xq_1405, xq_2, xq_1406, ⟨by decide +kernel, by decide +kernel, by decide +kernel⟩, by decide⟩
theorem mX11_free {l : Launch} {G : xG} (hl : l.stackTraces = false) (x0 : Nat) (h0 : xOb 11 x0) (x1 : Int) (h1 : R32 x1) (x2 : Int) (h2 : R32 x2) (M : xM) (hM : xcan M) : Cm l G yX11_free cX11_free 3 (some .long) 3 2 2 12 [.ref x0, iv x1, iv x2] M (fX11_free x0 x1 x2 M) := by
  refine xcm_of (u := uX11_free) (ls := [some (.ref x0), some (iv x1), some (iv x2)]) 0 hl rfl (by decide +kernel) (Nat.le_of_ble_eq_true rfl) rfl ?_
  unfold fX11_free
  refine xg_aload_n dX11_free_0 (Eq.refl 1) rfl ?_
  refine xg_iload_n dX11_free_1 (Eq.refl 2) rfl ?_
  refine xg_callV_N (kc := 1) (ks := 6) (st := []) (mX11_needAccount hl x0 h0 x1 h1 M hM) bX11_needAccount xcl11 h0 rfl xq_146 rfl (by decide) rfl (by decide) dX11_free_2 (Eq.refl 5) rfl (by decide) (by decide) ?_
  intro z1 M2 hz1 hM2
  refine xg_aload_n dX11_free_5 (Eq.refl 6) rfl ?_
  refine xg_iload_n dX11_free_6 (Eq.refl 7) rfl ?_
  refine xg_callV_N (kc := 0) (ks := 0) (st := []) (mX11_needSecurity hl x0 h0 x2 h2 M2 hM2) bX11_needSecurity xcl11 h0 rfl xq_285 rfl (by decide) rfl (by decide) dX11_free_7 (Eq.refl 10) rfl (by decide) (by decide) ?_
  intro z3 M4 hz3 hM4
  refine xg_aload_n dX11_free_10 (Eq.refl 11) rfl ?_
  refine xg_getR (k := 1) xcl11 h0 rfl xq_21 rfl (xt_11_1 h0).1 dX11_free_11 (Eq.refl 14) ?_
  refine xg_iload_n dX11_free_14 (Eq.refl 15) rfl ?_
  refine xg_callV_R (cr := 0) (kc := 0) (ks := 0) (st := []) (mX1_account hl (xr x0 1) (xt_11_1 h0).2 x1 h1 M4 hM4) bX1_account xcl1 (xt_11_1 h0).2 rfl xq_163 rfl (by decide) rfl (by decide) dX11_free_15 (Eq.refl 18) rfl (by decide) (by decide) ?_
  intro z5 M6 hz5 hM6
  refine xg_iload_n dX11_free_18 (Eq.refl 19) rfl ?_
  refine xg_callV_J (kc := 0) (ks := 0) (st := []) (mX0_freeOf hl z5.toNat hz5 x2 h2 M6 hM6) bX0_freeOf xcl0 hz5 rfl xq_1407 rfl (by decide) rfl (by decide) dX11_free_19 (Eq.refl 22) rfl (by decide) (by decide) ?_
  intro z7 M8 hz7 hM8
  exact xg_lret rfl dX11_free_22 rfl hM8 hz7
abbrev uX11_out : xU := (RX11, cX11_out, 2, (some .long), [], "out")
theorem bX11_out : xYV yX11_out cX11_out 2 (some .long) 1 := ⟨xq_1416, xq_1417, xq_2, xq_1418, ⟨by decide +kernel, by decide +kernel, by decide +kernel⟩, by decide⟩
theorem mX11_out {l : Launch} {G : xG} (hl : l.stackTraces = false) (x0 : Nat) (h0 : xOb 11 x0) (x1 : Int) (h1 : R32 x1) (M : xM) (hM : xcan M) : Cm l G yX11_out cX11_out 2 (some .long) 3 2 1 6 [.ref x0, iv x1] M (fX11_out x0 x1 M) := by
  refine xcm_of (u := uX11_out) (ls := [some (.ref x0), some (iv x1)]) 0 hl rfl (by decide +kernel) (Nat.le_of_ble_eq_true rfl) rfl ?_
  unfold fX11_out
  refine xg_aload_n dX11_out_0 (Eq.refl 1) rfl ?_
  refine xg_iload_n dX11_out_1 (Eq.refl 2) rfl ?_
  refine xg_callV_N (kc := 0) (ks := 0) (st := []) (mX11_needSecurity hl x0 h0 x1 h1 M hM) bX11_needSecurity xcl11 h0 rfl xq_285 rfl (by decide) rfl (by decide) dX11_out_2 (Eq.refl 5) rfl (by decide) (by decide) ?_
  intro z1 M2 hz1 hM2
  refine xg_aload_n dX11_out_5 (Eq.refl 6) rfl ?_
  refine xg_getR (k := 1) xcl11 h0 rfl xq_21 rfl (xt_11_1 h0).1 dX11_out_6 (Eq.refl 9) ?_
  refine xg_iload_n dX11_out_9 (Eq.refl 10) rfl ?_
  refine xg_callV_R (cr := 9) (kc := 0) (ks := 0) (st := []) (mX1_security hl (xr x0 1) (xt_11_1 h0).2 x1 h1 M2 hM2) bX1_security xcl1 (xt_11_1 h0).2 rfl xq_258 rfl (by decide) rfl (by decide) dX11_out_10 (Eq.refl 13) rfl (by decide) (by decide) ?_
  intro z3 M4 hz3 hM4
  refine xg_getJ (k := 3) xcl9 hz3 rfl xq_256 rfl dX11_out_13 (Eq.refl 16) ?_
  exact xg_lret rfl dX11_out_16 rfl hM4 (hM4.J hz3 rfl)
abbrev uX11_cash : xU := (RX11, cX11_cash, 2, (some .long), [], "cash")
theorem bX11_cash : xYV yX11_cash cX11_cash 2 (some .long) 1 := ⟨xq_1427, xq_1428, xq_2, xq_1429, ⟨by decide +kernel, by decide +kernel, by decide +kernel⟩, by decide⟩
theorem mX11_cash {l : Launch} {G : xG} (hl : l.stackTraces = false) (x0 : Nat) (h0 : xOb 11 x0) (x1 : Int) (h1 : R32 x1) (M : xM) (hM : xcan M) : Cm l G yX11_cash cX11_cash 2 (some .long) 3 2 1 6 [.ref x0, iv x1] M (fX11_cash x0 x1 M) := by
  refine xcm_of (u := uX11_cash) (ls := [some (.ref x0), some (iv x1)]) 0 hl rfl (by decide +kernel) (Nat.le_of_ble_eq_true rfl) rfl ?_
  unfold fX11_cash
  refine xg_aload_n dX11_cash_0 (Eq.refl 1) rfl ?_
  refine xg_iload_n dX11_cash_1 (Eq.refl 2) rfl ?_
  refine xg_callV_N (kc := 0) (ks := 0) (st := []) (mX11_needAccount hl x0 h0 x1 h1 M hM) bX11_needAccount xcl11 h0 rfl xq_146 rfl (by decide) rfl (by decide) dX11_cash_2 (Eq.refl 5) rfl (by decide) (by decide) ?_
  intro z1 M2 hz1 hM2
  refine xg_aload_n dX11_cash_5 (Eq.refl 6) rfl ?_
  refine xg_getR (k := 1) xcl11 h0 rfl xq_21 rfl (xt_11_1 h0).1 dX11_cash_6 (Eq.refl 9) ?_
  refine xg_iload_n dX11_cash_9 (Eq.refl 10) rfl ?_
  refine xg_callV_R (cr := 0) (kc := 0) (ks := 0) (st := []) (mX1_account hl (xr x0 1) (xt_11_1 h0).2 x1 h1 M2 hM2) bX1_account xcl1 (xt_11_1 h0).2 rfl xq_163 rfl (by decide) rfl (by decide) dX11_cash_10 (Eq.refl 13) rfl (by decide) (by decide) ?_
  intro z3 M4 hz3 hM4
  refine xg_getJ (k := 5) xcl0 hz3 rfl xq_144 rfl dX11_cash_13 (Eq.refl 16) ?_
  exact xg_lret rfl dX11_cash_16 rfl hM4 (hM4.J hz3 rfl)
abbrev uX11_pledged : xU := (RX11, cX11_pledged, 2, (some .long), [], "pledged")
theorem bX11_pledged : xYV yX11_pledged cX11_pledged 2 (some .long) 1 := ⟨xq_1438, xq_1439, xq_2, xq_1440, ⟨by decide +kernel, by decide +kernel, by decide +kernel⟩, by decide⟩
theorem mX11_pledged {l : Launch} {G : xG} (hl : l.stackTraces = false) (x0 : Nat) (h0 : xOb 11 x0) (x1 : Int) (h1 : R32 x1) (M : xM) (hM : xcan M) : Cm l G yX11_pledged cX11_pledged 2 (some .long) 3 2 1 6 [.ref x0, iv x1] M (fX11_pledged x0 x1 M) := by
  refine xcm_of (u := uX11_pledged) (ls := [some (.ref x0), some (iv x1)]) 0 hl rfl (by decide +kernel) (Nat.le_of_ble_eq_true rfl) rfl ?_
  unfold fX11_pledged
  refine xg_aload_n dX11_pledged_0 (Eq.refl 1) rfl ?_
  refine xg_iload_n dX11_pledged_1 (Eq.refl 2) rfl ?_
  refine xg_callV_N (kc := 0) (ks := 0) (st := []) (mX11_needAccount hl x0 h0 x1 h1 M hM) bX11_needAccount xcl11 h0 rfl xq_146 rfl (by decide) rfl (by decide) dX11_pledged_2 (Eq.refl 5) rfl (by decide) (by decide) ?_
  intro z1 M2 hz1 hM2
  refine xg_aload_n dX11_pledged_5 (Eq.refl 6) rfl ?_
  refine xg_getR (k := 1) xcl11 h0 rfl xq_21 rfl (xt_11_1 h0).1 dX11_pledged_6 (Eq.refl 9) ?_
  refine xg_iload_n dX11_pledged_9 (Eq.refl 10) rfl ?_
  refine xg_callV_R (cr := 0) (kc := 0) (ks := 0) (st := []) (mX1_account hl (xr x0 1) (xt_11_1 h0).2 x1 h1 M2 hM2) bX1_account xcl1 (xt_11_1 h0).2 rfl xq_163 rfl (by decide) rfl (by decide) dX11_pledged_10 (Eq.refl 13) rfl (by decide) (by decide) ?_
  intro z3 M4 hz3 hM4
  refine xg_getJ (k := 6) xcl0 hz3 rfl xq_1441 rfl dX11_pledged_13 (Eq.refl 16) ?_
  exact xg_lret rfl dX11_pledged_16 rfl hM4 (hM4.J hz3 rfl)
abbrev uX11_limit : xU := (RX11, cX11_limit, 2, (some .long), [], "limit")
theorem bX11_limit : xYV yX11_limit cX11_limit 2 (some .long) 1 := ⟨xq_1450, xq_1451, xq_2, xq_1452, ⟨by decide +kernel, by decide +kernel, by decide +kernel⟩, by decide⟩
theorem mX11_limit {l : Launch} {G : xG} (hl : l.stackTraces = false) (x0 : Nat) (h0 : xOb 11 x0) (x1 : Int) (h1 : R32 x1) (M : xM) (hM : xcan M) : Cm l G yX11_limit cX11_limit 2 (some .long) 3 2 1 6 [.ref x0, iv x1] M (fX11_limit x0 x1 M) := by
  refine xcm_of (u := uX11_limit) (ls := [some (.ref x0), some (iv x1)]) 0 hl rfl (by decide +kernel) (Nat.le_of_ble_eq_true rfl) rfl ?_
  unfold fX11_limit
  refine xg_aload_n dX11_limit_0 (Eq.refl 1) rfl ?_
  refine xg_iload_n dX11_limit_1 (Eq.refl 2) rfl ?_
  refine xg_callV_N (kc := 0) (ks := 0) (st := []) (mX11_needAccount hl x0 h0 x1 h1 M hM) bX11_needAccount xcl11 h0 rfl xq_146 rfl (by decide) rfl (by decide) dX11_limit_2 (Eq.refl 5) rfl (by decide) (by decide) ?_
  intro z1 M2 hz1 hM2
  refine xg_aload_n dX11_limit_5 (Eq.refl 6) rfl ?_
  refine xg_getR (k := 1) xcl11 h0 rfl xq_21 rfl (xt_11_1 h0).1 dX11_limit_6 (Eq.refl 9) ?_
  refine xg_aload_n dX11_limit_9 (Eq.refl 10) rfl ?_
  refine xg_getR (k := 1) xcl11 h0 rfl xq_21 rfl (xt_11_1 h0).1 dX11_limit_10 (Eq.refl 13) ?_
  refine xg_iload_n dX11_limit_13 (Eq.refl 14) rfl ?_
  refine xg_callV_R (cr := 0) (kc := 0) (ks := 0) (st := [.ref (xr x0 1)]) (mX1_account hl (xr x0 1) (xt_11_1 h0).2 x1 h1 M2 hM2) bX1_account xcl1 (xt_11_1 h0).2 rfl xq_163 rfl (by decide) rfl (Nat.le_of_ble_eq_true rfl) dX11_limit_14 (Eq.refl 17) rfl (by decide) (by decide) ?_
  intro z3 M4 hz3 hM4
  refine xg_callV_J (kc := 0) (ks := 0) (st := []) (mX1_limitOf hl (xr x0 1) (xt_11_1 h0).2 z3.toNat hz3 M4 hM4) bX1_limitOf xcl1 (xt_11_1 h0).2 rfl xq_1453 rfl (by decide) rfl (by decide) dX11_limit_17 (Eq.refl 20) rfl (by decide) (by decide) ?_
  intro z5 M6 hz5 hM6
  exact xg_lret rfl dX11_limit_20 rfl hM6 hz5
abbrev uX11_isSound : xU := (RX11, cX11_isSound, 2, (some .boolean), [], "isSound")
theorem bX11_isSound : xYV yX11_isSound cX11_isSound 2 (some .boolean) 1 := ⟨xq_1462, xq_1463, xq_2, xq_1464, ⟨by decide +kernel, by decide +kernel, by decide +kernel⟩, by decide⟩
theorem mX11_isSound {l : Launch} {G : xG} (hl : l.stackTraces = false) (x0 : Nat) (h0 : xOb 11 x0) (x1 : Int) (h1 : R32 x1) (M : xM) (hM : xcan M) : Cm l G yX11_isSound cX11_isSound 2 (some .boolean) 4 1 1 6 [.ref x0, iv x1] M (fX11_isSound x0 x1 M) := by
  refine xcm_of (u := uX11_isSound) (ls := [some (.ref x0), some (iv x1)]) 0 hl rfl (by decide +kernel) (Nat.le_of_ble_eq_true rfl) rfl ?_
  unfold fX11_isSound
  refine xg_aload_n dX11_isSound_0 (Eq.refl 1) rfl ?_
  refine xg_iload_n dX11_isSound_1 (Eq.refl 2) rfl ?_
  refine xg_callV_N (kc := 0) (ks := 0) (st := []) (mX11_needAccount hl x0 h0 x1 h1 M hM) bX11_needAccount xcl11 h0 rfl xq_146 rfl (by decide) rfl (by decide) dX11_isSound_2 (Eq.refl 5) rfl (by decide) (by decide) ?_
  intro z1 M2 hz1 hM2
  refine xg_aload_n dX11_isSound_5 (Eq.refl 6) rfl ?_
  refine xg_getR (k := 1) xcl11 h0 rfl xq_21 rfl (xt_11_1 h0).1 dX11_isSound_6 (Eq.refl 9) ?_
  refine xg_iload_n dX11_isSound_9 (Eq.refl 10) rfl ?_
  refine xg_callV_Z (kc := 0) (ks := 0) (st := []) (mX1_isFirm hl (xr x0 1) (xt_11_1 h0).2 x1 h1 M2 hM2) bX1_isFirm xcl1 (xt_11_1 h0).2 rfl xq_329 rfl (by decide) rfl (by decide) dX11_isSound_10 (Eq.refl 13) rfl (by decide) (by decide) ?_
  intro z3 M4 hz3 hM4
  exact xg_zret rfl dX11_isSound_13 rfl hM4 hz3
abbrev uX11_ledger : xU := (RX11, cX11_ledger, 2, (some .long), [], "ledger")
theorem bX11_ledger : xYV yX11_ledger cX11_ledger 2 (some .long) 1 := ⟨xq_1486, xq_1487, xq_2, xq_1488, ⟨by decide +kernel, by decide +kernel, by decide +kernel⟩, by decide⟩
theorem mX11_ledger {l : Launch} {G : xG} (hl : l.stackTraces = false) (x0 : Nat) (h0 : xOb 11 x0) (x1 : Int) (h1 : R32 x1) (M : xM) (hM : xcan M) : Cm l G yX11_ledger cX11_ledger 2 (some .long) 3 2 1 6 [.ref x0, iv x1] M (fX11_ledger x0 x1 M) := by
  refine xcm_of (u := uX11_ledger) (ls := [some (.ref x0), some (iv x1)]) 0 hl rfl (by decide +kernel) (Nat.le_of_ble_eq_true rfl) rfl ?_
  unfold fX11_ledger
  refine xg_aload_n dX11_ledger_0 (Eq.refl 1) rfl ?_
  refine xg_iload_n dX11_ledger_1 (Eq.refl 2) rfl ?_
  refine xg_callV_N (kc := 0) (ks := 0) (st := []) (mX11_needAccount hl x0 h0 x1 h1 M hM) bX11_needAccount xcl11 h0 rfl xq_146 rfl (by decide) rfl (by decide) dX11_ledger_2 (Eq.refl 5) rfl (by decide) (by decide) ?_
  intro z1 M2 hz1 hM2
  refine xg_aload_n dX11_ledger_5 (Eq.refl 6) rfl ?_
  refine xg_getR (k := 1) xcl11 h0 rfl xq_21 rfl (xt_11_1 h0).1 dX11_ledger_6 (Eq.refl 9) ?_
  refine xg_iload_n dX11_ledger_9 (Eq.refl 10) rfl ?_
  refine xg_callV_R (cr := 0) (kc := 0) (ks := 0) (st := []) (mX1_account hl (xr x0 1) (xt_11_1 h0).2 x1 h1 M2 hM2) bX1_account xcl1 (xt_11_1 h0).2 rfl xq_163 rfl (by decide) rfl (by decide) dX11_ledger_10 (Eq.refl 13) rfl (by decide) (by decide) ?_
  intro z3 M4 hz3 hM4
  refine xg_getJ (k := 8) xcl0 hz3 rfl xq_1489 rfl dX11_ledger_13 (Eq.refl 16) ?_
  exact xg_lret rfl dX11_ledger_16 rfl hM4 (hM4.J hz3 rfl)
abbrev uX11_messages : xU := (RX11, cX11_messages, 2, (some .int), [], "messages")
theorem bX11_messages : xYV yX11_messages cX11_messages 2 (some .int) 1 := ⟨xq_1498, xq_1499, xq_2, xq_1500, ⟨by decide +kernel, by decide +kernel, by decide +kernel⟩, by decide⟩
theorem mX11_messages {l : Launch} {G : xG} (hl : l.stackTraces = false) (x0 : Nat) (h0 : xOb 11 x0) (x1 : Int) (h1 : R32 x1) (M : xM) (hM : xcan M) : Cm l G yX11_messages cX11_messages 2 (some .int) 3 0 1 6 [.ref x0, iv x1] M (fX11_messages x0 x1 M) := by
  refine xcm_of (u := uX11_messages) (ls := [some (.ref x0), some (iv x1)]) 0 hl rfl (by decide +kernel) (Nat.le_of_ble_eq_true rfl) rfl ?_
  unfold fX11_messages
  refine xg_aload_n dX11_messages_0 (Eq.refl 1) rfl ?_
  refine xg_iload_n dX11_messages_1 (Eq.refl 2) rfl ?_
  refine xg_callV_N (kc := 0) (ks := 0) (st := []) (mX11_needAccount hl x0 h0 x1 h1 M hM) bX11_needAccount xcl11 h0 rfl xq_146 rfl (by decide) rfl (by decide) dX11_messages_2 (Eq.refl 5) rfl (by decide) (by decide) ?_
  intro z1 M2 hz1 hM2
  refine xg_aload_n dX11_messages_5 (Eq.refl 6) rfl ?_
  refine xg_getR (k := 0) xcl11 h0 rfl xq_17 rfl (xt_11_0 h0).1 dX11_messages_6 (Eq.refl 9) ?_
  refine xg_iload_n dX11_messages_9 (Eq.refl 10) rfl ?_
  refine xg_callV_I (kc := 0) (ks := 0) (st := []) (mX8_toldTo hl (xr x0 0) (xt_11_0 h0).2 x1 h1 M2 hM2) bX8_toldTo xcl8 (xt_11_0 h0).2 rfl xq_1501 rfl (by decide) rfl (by decide) dX11_messages_10 (Eq.refl 13) rfl (by decide) (by decide) ?_
  intro z3 M4 hz3 hM4
  exact xg_iret rfl dX11_messages_13 rfl hM4 hz3
abbrev uX11_alleged : xU := (RX11, cX11_alleged, 5, (some .int), [], "alleged")
theorem bX11_alleged : xYV yX11_alleged cX11_alleged 5 (some .int) 1 := ⟨xq_1513, xq_1514, xq_2, xq_1515, ⟨by decide +kernel, by decide +kernel, by decide +kernel⟩, by decide⟩
theorem gX11_alleged_50 {l : Launch} {G : xG} (hl : l.stackTraces = false) (rc9 : Int → Int → xM → xO) (x0 : Nat) (h0 : xOb 11 x0) (x1 : Int) (h1 : R32 x1) (x2 : Int) (h2 : R32 x2) (x3 : Int) (h3 : R32 x3) (hr9 : ∀ w2 : Int, R32 w2 → ∀ w3 : Int, R32 w3 → ∀ M : xM, xcan M → Gv l G uX11_alleged 3 0 0 0 9 [some (.ref x0), some (iv x1), some (iv w2), some (iv w3), none] [] M (rc9 w2 w3 M)) (M : xM) (hM : xcan M) : Gv l G uX11_alleged 3 0 0 0 50 [some (.ref x0), some (iv x1), some (iv x2), some (iv x3), none] [] M (fX11_alleged_50 rc9 x0 x1 x2 x3 M) := by
  unfold fX11_alleged_50
  refine xg_iinc (ls2 := [some (.ref x0), some (iv x1), some (iv x2), some (iv (w32 (x3 + 1))), none]) dX11_alleged_50 (Eq.refl 53) rfl (by decide) rfl ?_
  refine xg_goto (tgt := 9) dX11_alleged_53 (by decide) ?_
  exact xg_jump (hr9 x2 h2 (w32 (x3 + 1)) (w32_r _) M hM) (xsb_s (xsb_s (xsb_s (xsb_s (xsb_n xsb_0))))) (by decide) (by decide)
theorem gX11_alleged_9 {l : Launch} {G : xG} (hl : l.stackTraces = false) (x0 : Nat) (h0 : xOb 11 x0) (x1 : Int) (h1 : R32 x1) : ∀ (n : Nat) (x2 : Int) (_ : R32 x2) (x3 : Int) (_ : R32 x3) (M : xM) (_ : xcan M), Gv l G uX11_alleged 3 0 0 0 9 [some (.ref x0), some (iv x1), some (iv x2), some (iv x3), none] [] M (fX11_alleged_9 x0 x1 n x2 x3 M) := by
  intro n; induction n with
  | zero => intro x2 h2 x3 h3 M hM; exact xg_none
  | succ n ih =>
    intro x2 h2 x3 h3 M hM
    rw [fX11_alleged_9]
    refine xg_iload_n dX11_alleged_9 (Eq.refl 10) rfl ?_
    refine xg_aload_n dX11_alleged_10 (Eq.refl 11) rfl ?_
    refine xg_getR (k := 1) xcl11 h0 rfl xq_21 rfl (xt_11_1 h0).1 dX11_alleged_11 (Eq.refl 14) ?_
    refine xg_getI (k := 11) xcl1 (xt_11_1 h0).2 rfl xq_387 rfl dX11_alleged_14 (Eq.refl 17) ?_
    refine xg_icmp_ge (tgt := 56) dX11_alleged_17 (Eq.refl 20) (by decide) h3 (hM.I (xt_11_1 h0).2 rfl) ?_ ?_
    · refine xg_iload_n dX11_alleged_56 (Eq.refl 57) rfl ?_
      exact xg_iret rfl dX11_alleged_57 rfl hM h2
    · refine xg_aload_n dX11_alleged_20 (Eq.refl 21) rfl ?_
      refine xg_getR (k := 1) xcl11 h0 rfl xq_21 rfl (xt_11_1 h0).1 dX11_alleged_21 (Eq.refl 24) ?_
      refine xg_iload_n dX11_alleged_24 (Eq.refl 25) rfl ?_
      refine xg_callV_R (cr := 5) (kc := 0) (ks := 0) (st := []) (mX1_instruction hl (xr x0 1) (xt_11_1 h0).2 x3 h3 M hM) bX1_instruction xcl1 (xt_11_1 h0).2 rfl xq_398 rfl (by decide) rfl (by decide) dX11_alleged_25 (Eq.refl 28) rfl (by decide) (by decide) ?_
      intro z1 M2 hz1 hM2
      refine xg_astore (ls2 := [some (.ref x0), some (iv x1), some (iv x2), some (iv x3), some (.ref z1.toNat)]) dX11_alleged_28 (Eq.refl 30) (by decide) rfl ?_
      refine xg_aload dX11_alleged_30 (Eq.refl 32) rfl ?_
      refine xg_getI (k := 9) xcl5 hz1 rfl xq_508 rfl dX11_alleged_32 (Eq.refl 35) ?_
      refine xg_if_ne (tgt := 50) dX11_alleged_35 (Eq.refl 38) (by decide) (hM2.I hz1 rfl) ?_ ?_
      · refine xg_aload dX11_alleged_38 (Eq.refl 40) rfl ?_
        refine xg_getI (k := 1) xcl5 hz1 rfl xq_389 rfl dX11_alleged_40 (Eq.refl 43) ?_
        refine xg_iload_n dX11_alleged_43 (Eq.refl 44) rfl ?_
        refine xg_icmp_ne (tgt := 50) dX11_alleged_44 (Eq.refl 47) (by decide) (hM2.I hz1 rfl) h1 ?_ ?_
        · refine xg_iinc (ls2 := [some (.ref x0), some (iv x1), some (iv (w32 (x2 + 1))), some (iv x3), some (.ref z1.toNat)]) dX11_alleged_47 (Eq.refl 50) rfl (by decide) rfl ?_
          exact xg_jump (gX11_alleged_50 hl (fX11_alleged_9 x0 x1 n) x0 h0 x1 h1 (w32 (x2 + 1)) (w32_r _) x3 h3 ih M2 hM2) (xsb_s (xsb_s (xsb_s (xsb_s (xsb_n xsb_0))))) (by decide) (by decide)
        · exact xg_jump (gX11_alleged_50 hl (fX11_alleged_9 x0 x1 n) x0 h0 x1 h1 x2 h2 x3 h3 ih M2 hM2) (xsb_s (xsb_s (xsb_s (xsb_s (xsb_n xsb_0))))) (by decide) (by decide)
      · exact xg_jump (gX11_alleged_50 hl (fX11_alleged_9 x0 x1 n) x0 h0 x1 h1 x2 h2 x3 h3 ih M2 hM2) (xsb_s (xsb_s (xsb_s (xsb_s (xsb_n xsb_0))))) (by decide) (by decide)
theorem mX11_alleged {l : Launch} {G : xG} (hl : l.stackTraces = false) (x0 : Nat) (h0 : xOb 11 x0) (x1 : Int) (h1 : R32 x1) (M : xM) (hM : xcan M) : Cm l G yX11_alleged cX11_alleged 5 (some .int) 3 0 1 6 [.ref x0, iv x1] M (fX11_alleged x0 x1 M) := by
  refine xcm_of (u := uX11_alleged) (ls := [some (.ref x0), some (iv x1), none, none, none]) 3 hl rfl (by decide +kernel) (Nat.le_of_ble_eq_true rfl) rfl ?_
  unfold fX11_alleged
  refine xg_aload_n dX11_alleged_0 (Eq.refl 1) rfl ?_
  refine xg_iload_n dX11_alleged_1 (Eq.refl 2) rfl ?_
  refine xg_callV_N (kc := 0) (ks := 0) (st := []) (mX11_needAccount hl x0 h0 x1 h1 M hM) bX11_needAccount xcl11 h0 rfl xq_146 rfl (by decide) rfl (by decide) dX11_alleged_2 (Eq.refl 5) rfl (by decide) (by decide) ?_
  intro z1 M2 hz1 hM2
  refine xg_iconst dX11_alleged_5 (Eq.refl 6) ?_
  refine xg_istore_n (ls2 := [some (.ref x0), some (iv x1), some (iv 0), none, none]) dX11_alleged_6 (Eq.refl 7) (by decide) rfl ?_
  refine xg_iconst dX11_alleged_7 (Eq.refl 8) ?_
  refine xg_istore_n (ls2 := [some (.ref x0), some (iv x1), some (iv 0), some (iv 0), none]) dX11_alleged_8 (Eq.refl 9) (by decide) rfl ?_
  exact xg_jump (gX11_alleged_9 hl x0 h0 x1 h1 xN 0 (by decide) 0 (by decide) M2 hM2) (xsb_s (xsb_s (xsb_s (xsb_s (xsb_n xsb_0))))) (by decide) (by decide)
abbrev uX11_status : xU := (RX11, cX11_status, 2, (some .int), [], "status")
theorem bX11_status : xYV yX11_status cX11_status 2 (some .int) 1 := ⟨xq_1524, xq_1525, xq_2, xq_1526, ⟨by decide +kernel, by decide +kernel, by decide +kernel⟩, by decide⟩
theorem mX11_status {l : Launch} {G : xG} (hl : l.stackTraces = false) (x0 : Nat) (h0 : xOb 11 x0) (x1 : Int) (h1 : R32 x1) (M : xM) (hM : xcan M) : Cm l G yX11_status cX11_status 2 (some .int) 3 0 1 6 [.ref x0, iv x1] M (fX11_status x0 x1 M) := by
  refine xcm_of (u := uX11_status) (ls := [some (.ref x0), some (iv x1)]) 0 hl rfl (by decide +kernel) (Nat.le_of_ble_eq_true rfl) rfl ?_
  unfold fX11_status
  refine xg_aload_n dX11_status_0 (Eq.refl 1) rfl ?_
  refine xg_iload_n dX11_status_1 (Eq.refl 2) rfl ?_
  refine xg_callV_N (kc := 0) (ks := 0) (st := []) (mX11_needInstruction hl x0 h0 x1 h1 M hM) bX11_needInstruction xcl11 h0 rfl xq_509 rfl (by decide) rfl (by decide) dX11_status_2 (Eq.refl 5) rfl (by decide) (by decide) ?_
  intro z1 M2 hz1 hM2
  refine xg_aload_n dX11_status_5 (Eq.refl 6) rfl ?_
  refine xg_getR (k := 1) xcl11 h0 rfl xq_21 rfl (xt_11_1 h0).1 dX11_status_6 (Eq.refl 9) ?_
  refine xg_iload_n dX11_status_9 (Eq.refl 10) rfl ?_
  refine xg_callV_R (cr := 5) (kc := 0) (ks := 0) (st := []) (mX1_instruction hl (xr x0 1) (xt_11_1 h0).2 x1 h1 M2 hM2) bX1_instruction xcl1 (xt_11_1 h0).2 rfl xq_398 rfl (by decide) rfl (by decide) dX11_status_10 (Eq.refl 13) rfl (by decide) (by decide) ?_
  intro z3 M4 hz3 hM4
  refine xg_getI (k := 9) xcl5 hz3 rfl xq_508 rfl dX11_status_13 (Eq.refl 16) ?_
  exact xg_iret rfl dX11_status_16 rfl hM4 (hM4.I hz3 rfl)
abbrev uX11_tradeOf : xU := (RX11, cX11_tradeOf, 2, (some .int), [], "tradeOf")
theorem bX11_tradeOf : xYV yX11_tradeOf cX11_tradeOf 2 (some .int) 1 := ⟨xq_1535, xq_1536, xq_2, xq_1537, ⟨by decide +kernel, by decide +kernel, by decide +kernel⟩, by decide⟩
theorem mX11_tradeOf {l : Launch} {G : xG} (hl : l.stackTraces = false) (x0 : Nat) (h0 : xOb 11 x0) (x1 : Int) (h1 : R32 x1) (M : xM) (hM : xcan M) : Cm l G yX11_tradeOf cX11_tradeOf 2 (some .int) 3 0 1 6 [.ref x0, iv x1] M (fX11_tradeOf x0 x1 M) := by
  refine xcm_of (u := uX11_tradeOf) (ls := [some (.ref x0), some (iv x1)]) 0 hl rfl (by decide +kernel) (Nat.le_of_ble_eq_true rfl) rfl ?_
  unfold fX11_tradeOf
  refine xg_aload_n dX11_tradeOf_0 (Eq.refl 1) rfl ?_
  refine xg_iload_n dX11_tradeOf_1 (Eq.refl 2) rfl ?_
  refine xg_callV_N (kc := 0) (ks := 0) (st := []) (mX11_needInstruction hl x0 h0 x1 h1 M hM) bX11_needInstruction xcl11 h0 rfl xq_509 rfl (by decide) rfl (by decide) dX11_tradeOf_2 (Eq.refl 5) rfl (by decide) (by decide) ?_
  intro z1 M2 hz1 hM2
  refine xg_aload_n dX11_tradeOf_5 (Eq.refl 6) rfl ?_
  refine xg_getR (k := 1) xcl11 h0 rfl xq_21 rfl (xt_11_1 h0).1 dX11_tradeOf_6 (Eq.refl 9) ?_
  refine xg_iload_n dX11_tradeOf_9 (Eq.refl 10) rfl ?_
  refine xg_callV_R (cr := 5) (kc := 0) (ks := 0) (st := []) (mX1_instruction hl (xr x0 1) (xt_11_1 h0).2 x1 h1 M2 hM2) bX1_instruction xcl1 (xt_11_1 h0).2 rfl xq_398 rfl (by decide) rfl (by decide) dX11_tradeOf_10 (Eq.refl 13) rfl (by decide) (by decide) ?_
  intro z3 M4 hz3 hM4
  refine xg_getI (k := 10) xcl5 hz3 rfl xq_529 rfl dX11_tradeOf_13 (Eq.refl 16) ?_
  exact xg_iret rfl dX11_tradeOf_16 rfl hM4 (hM4.I hz3 rfl)
abbrev uX11_tradeUnits : xU := (RX11, cX11_tradeUnits, 2, (some .long), [], "tradeUnits")
theorem bX11_tradeUnits : xYV yX11_tradeUnits cX11_tradeUnits 2 (some .long) 1 := ⟨xq_1546, xq_1547, xq_2, xq_1548, ⟨by decide +kernel, by decide +kernel, by decide +kernel⟩, by decide⟩
theorem mX11_tradeUnits {l : Launch} {G : xG} (hl : l.stackTraces = false) (x0 : Nat) (h0 : xOb 11 x0) (x1 : Int) (h1 : R32 x1) (M : xM) (hM : xcan M) : Cm l G yX11_tradeUnits cX11_tradeUnits 2 (some .long) 3 2 1 6 [.ref x0, iv x1] M (fX11_tradeUnits x0 x1 M) := by
  refine xcm_of (u := uX11_tradeUnits) (ls := [some (.ref x0), some (iv x1)]) 0 hl rfl (by decide +kernel) (Nat.le_of_ble_eq_true rfl) rfl ?_
  unfold fX11_tradeUnits
  refine xg_aload_n dX11_tradeUnits_0 (Eq.refl 1) rfl ?_
  refine xg_iload_n dX11_tradeUnits_1 (Eq.refl 2) rfl ?_
  refine xg_callV_N (kc := 0) (ks := 0) (st := []) (mX11_needTrade hl x0 h0 x1 h1 M hM) bX11_needTrade xcl11 h0 rfl xq_594 rfl (by decide) rfl (by decide) dX11_tradeUnits_2 (Eq.refl 5) rfl (by decide) (by decide) ?_
  intro z1 M2 hz1 hM2
  refine xg_aload_n dX11_tradeUnits_5 (Eq.refl 6) rfl ?_
  refine xg_getR (k := 1) xcl11 h0 rfl xq_21 rfl (xt_11_1 h0).1 dX11_tradeUnits_6 (Eq.refl 9) ?_
  refine xg_iload_n dX11_tradeUnits_9 (Eq.refl 10) rfl ?_
  refine xg_callV_R (cr := 10) (kc := 0) (ks := 0) (st := []) (mX1_trade hl (xr x0 1) (xt_11_1 h0).2 x1 h1 M2 hM2) bX1_trade xcl1 (xt_11_1 h0).2 rfl xq_540 rfl (by decide) rfl (by decide) dX11_tradeUnits_10 (Eq.refl 13) rfl (by decide) (by decide) ?_
  intro z3 M4 hz3 hM4
  refine xg_getJ (k := 6) xcl10 hz3 rfl xq_1549 rfl dX11_tradeUnits_13 (Eq.refl 16) ?_
  exact xg_lret rfl dX11_tradeUnits_16 rfl hM4 (hM4.J hz3 rfl)
abbrev uX11_tradeAmount : xU := (RX11, cX11_tradeAmount, 2, (some .long), [], "tradeAmount")
theorem bX11_tradeAmount : xYV yX11_tradeAmount cX11_tradeAmount 2 (some .long) 1 := ⟨xq_1558, xq_1559, xq_2, xq_1560, ⟨by decide +kernel, by decide +kernel, by decide +kernel⟩, by decide⟩
theorem mX11_tradeAmount {l : Launch} {G : xG} (hl : l.stackTraces = false) (x0 : Nat) (h0 : xOb 11 x0) (x1 : Int) (h1 : R32 x1) (M : xM) (hM : xcan M) : Cm l G yX11_tradeAmount cX11_tradeAmount 2 (some .long) 3 2 1 6 [.ref x0, iv x1] M (fX11_tradeAmount x0 x1 M) := by
  refine xcm_of (u := uX11_tradeAmount) (ls := [some (.ref x0), some (iv x1)]) 0 hl rfl (by decide +kernel) (Nat.le_of_ble_eq_true rfl) rfl ?_
  unfold fX11_tradeAmount
  refine xg_aload_n dX11_tradeAmount_0 (Eq.refl 1) rfl ?_
  refine xg_iload_n dX11_tradeAmount_1 (Eq.refl 2) rfl ?_
  refine xg_callV_N (kc := 0) (ks := 0) (st := []) (mX11_needTrade hl x0 h0 x1 h1 M hM) bX11_needTrade xcl11 h0 rfl xq_594 rfl (by decide) rfl (by decide) dX11_tradeAmount_2 (Eq.refl 5) rfl (by decide) (by decide) ?_
  intro z1 M2 hz1 hM2
  refine xg_aload_n dX11_tradeAmount_5 (Eq.refl 6) rfl ?_
  refine xg_getR (k := 1) xcl11 h0 rfl xq_21 rfl (xt_11_1 h0).1 dX11_tradeAmount_6 (Eq.refl 9) ?_
  refine xg_iload_n dX11_tradeAmount_9 (Eq.refl 10) rfl ?_
  refine xg_callV_R (cr := 10) (kc := 0) (ks := 0) (st := []) (mX1_trade hl (xr x0 1) (xt_11_1 h0).2 x1 h1 M2 hM2) bX1_trade xcl1 (xt_11_1 h0).2 rfl xq_540 rfl (by decide) rfl (by decide) dX11_tradeAmount_10 (Eq.refl 13) rfl (by decide) (by decide) ?_
  intro z3 M4 hz3 hM4
  refine xg_getJ (k := 7) xcl10 hz3 rfl xq_1561 rfl dX11_tradeAmount_13 (Eq.refl 16) ?_
  exact xg_lret rfl dX11_tradeAmount_16 rfl hM4 (hM4.J hz3 rfl)
abbrev uX11_age : xU := (RX11, cX11_age, 2, (some .int), [], "age")
theorem bX11_age : xYV yX11_age cX11_age 2 (some .int) 1 := ⟨xq_1570, xq_1571, xq_2, xq_1572, ⟨by decide +kernel, by decide +kernel, by decide +kernel⟩, by decide⟩
theorem mX11_age {l : Launch} {G : xG} (hl : l.stackTraces = false) (x0 : Nat) (h0 : xOb 11 x0) (x1 : Int) (h1 : R32 x1) (M : xM) (hM : xcan M) : Cm l G yX11_age cX11_age 2 (some .int) 3 0 1 6 [.ref x0, iv x1] M (fX11_age x0 x1 M) := by
  refine xcm_of (u := uX11_age) (ls := [some (.ref x0), some (iv x1)]) 0 hl rfl (by decide +kernel) (Nat.le_of_ble_eq_true rfl) rfl ?_
  unfold fX11_age
  refine xg_aload_n dX11_age_0 (Eq.refl 1) rfl ?_
  refine xg_iload_n dX11_age_1 (Eq.refl 2) rfl ?_
  refine xg_callV_N (kc := 0) (ks := 0) (st := []) (mX11_needTrade hl x0 h0 x1 h1 M hM) bX11_needTrade xcl11 h0 rfl xq_594 rfl (by decide) rfl (by decide) dX11_age_2 (Eq.refl 5) rfl (by decide) (by decide) ?_
  intro z1 M2 hz1 hM2
  refine xg_aload_n dX11_age_5 (Eq.refl 6) rfl ?_
  refine xg_getR (k := 1) xcl11 h0 rfl xq_21 rfl (xt_11_1 h0).1 dX11_age_6 (Eq.refl 9) ?_
  refine xg_iload_n dX11_age_9 (Eq.refl 10) rfl ?_
  refine xg_callV_R (cr := 10) (kc := 0) (ks := 0) (st := []) (mX1_trade hl (xr x0 1) (xt_11_1 h0).2 x1 h1 M2 hM2) bX1_trade xcl1 (xt_11_1 h0).2 rfl xq_540 rfl (by decide) rfl (by decide) dX11_age_10 (Eq.refl 13) rfl (by decide) (by decide) ?_
  intro z3 M4 hz3 hM4
  refine xg_getI (k := 11) xcl10 hz3 rfl xq_1573 rfl dX11_age_13 (Eq.refl 16) ?_
  exact xg_iret rfl dX11_age_16 rfl hM4 (hM4.I hz3 rfl)
abbrev uX11_causer : xU := (RX11, cX11_causer, 3, (some .int), [], "causer")
theorem bX11_causer : xYV yX11_causer cX11_causer 3 (some .int) 1 := ⟨xq_1582, xq_1583, xq_2, xq_1584, ⟨by decide +kernel, by decide +kernel, by decide +kernel⟩, by decide⟩
theorem mX11_causer {l : Launch} {G : xG} (hl : l.stackTraces = false) (x0 : Nat) (h0 : xOb 11 x0) (x1 : Int) (h1 : R32 x1) (M : xM) (hM : xcan M) : Cm l G yX11_causer cX11_causer 3 (some .int) 4 0 2 12 [.ref x0, iv x1] M (fX11_causer x0 x1 M) := by
  refine xcm_of (u := uX11_causer) (ls := [some (.ref x0), some (iv x1), none]) 1 hl rfl (by decide +kernel) (Nat.le_of_ble_eq_true rfl) rfl ?_
  unfold fX11_causer
  refine xg_aload_n dX11_causer_0 (Eq.refl 1) rfl ?_
  refine xg_iload_n dX11_causer_1 (Eq.refl 2) rfl ?_
  refine xg_callV_N (kc := 1) (ks := 6) (st := []) (mX11_needTrade hl x0 h0 x1 h1 M hM) bX11_needTrade xcl11 h0 rfl xq_594 rfl (by decide) rfl (by decide) dX11_causer_2 (Eq.refl 5) rfl (by decide) (by decide) ?_
  intro z1 M2 hz1 hM2
  refine xg_aload_n dX11_causer_5 (Eq.refl 6) rfl ?_
  refine xg_getR (k := 1) xcl11 h0 rfl xq_21 rfl (xt_11_1 h0).1 dX11_causer_6 (Eq.refl 9) ?_
  refine xg_iload_n dX11_causer_9 (Eq.refl 10) rfl ?_
  refine xg_callV_R (cr := 10) (kc := 1) (ks := 6) (st := []) (mX1_trade hl (xr x0 1) (xt_11_1 h0).2 x1 h1 M2 hM2) bX1_trade xcl1 (xt_11_1 h0).2 rfl xq_540 rfl (by decide) rfl (by decide) dX11_causer_10 (Eq.refl 13) rfl (by decide) (by decide) ?_
  intro z3 M4 hz3 hM4
  refine xg_astore_n (ls2 := [some (.ref x0), some (iv x1), some (.ref z3.toNat)]) dX11_causer_13 (Eq.refl 14) (by decide) rfl ?_
  refine xg_aload_n dX11_causer_14 (Eq.refl 15) rfl ?_
  refine xg_getR (k := 1) xcl11 h0 rfl xq_21 rfl (xt_11_1 h0).1 dX11_causer_15 (Eq.refl 18) ?_
  refine xg_aload_n dX11_causer_18 (Eq.refl 19) rfl ?_
  refine xg_callV_Z (kc := 1) (ks := 6) (st := []) (mX1_isDue hl (xr x0 1) (xt_11_1 h0).2 z3.toNat hz3 M4 hM4) bX1_isDue xcl1 (xt_11_1 h0).2 rfl xq_1585 rfl (by decide) rfl (by decide) dX11_causer_19 (Eq.refl 22) rfl (by decide) (by decide) ?_
  intro z5 M6 hz5 hM6
  refine xg_callS_N (kc := 0) (ks := 0) (st := []) (mX11_needState hl z5 hz5 M6 hM6) bX11_needState xq_167 rfl (by decide) rfl (by decide) dX11_causer_22 (Eq.refl 25) rfl (by decide) (by decide) ?_
  intro z7 M8 hz7 hM8
  refine xg_aload_n dX11_causer_25 (Eq.refl 26) rfl ?_
  refine xg_getR (k := 1) xcl11 h0 rfl xq_21 rfl (xt_11_1 h0).1 dX11_causer_26 (Eq.refl 29) ?_
  refine xg_aload_n dX11_causer_29 (Eq.refl 30) rfl ?_
  refine xg_callV_I (kc := 0) (ks := 0) (st := []) (mX1_causerOf hl (xr x0 1) (xt_11_1 h0).2 z3.toNat hz3 M8 hM8) bX1_causerOf xcl1 (xt_11_1 h0).2 rfl xq_1586 rfl (by decide) rfl (by decide) dX11_causer_30 (Eq.refl 33) rfl (by decide) (by decide) ?_
  intro z9 M10 hz9 hM10
  exact xg_iret rfl dX11_causer_33 rfl hM10 hz9
abbrev uX11_loans : xU := (RX11, cX11_loans, 1, (some .int), [], "loans")
theorem bX11_loans : xYV yX11_loans cX11_loans 1 (some .int) 0 := ⟨xq_1592, xq_1593, xq_2, xq_1594, ⟨by decide +kernel, by decide +kernel, by decide +kernel⟩, by decide⟩
theorem mX11_loans {l : Launch} {G : xG} (hl : l.stackTraces = false) (x0 : Nat) (h0 : xOb 11 x0) (M : xM) (hM : xcan M) : Cm l G yX11_loans cX11_loans 1 (some .int) 1 0 0 0 [.ref x0] M (fX11_loans x0 M) := by
  refine xcm_of (u := uX11_loans) (ls := [some (.ref x0)]) 0 hl rfl (by decide +kernel) (Nat.le_of_ble_eq_true rfl) rfl ?_
  unfold fX11_loans
  refine xg_aload_n dX11_loans_0 (Eq.refl 1) rfl ?_
  refine xg_getR (k := 1) xcl11 h0 rfl xq_21 rfl (xt_11_1 h0).1 dX11_loans_1 (Eq.refl 4) ?_
  refine xg_getI (k := 14) xcl1 (xt_11_1 h0).2 rfl xq_1184 rfl dX11_loans_4 (Eq.refl 7) ?_
  exact xg_iret rfl dX11_loans_7 rfl hM (hM.I (xt_11_1 h0).2 rfl)
abbrev uX11_loan : xU := (RX11, cX11_loan, 3, (some .long), [], "loan")
theorem bX11_loan : xYV yX11_loan cX11_loan 3 (some .long) 1 := ⟨xq_1603, xq_1604, xq_2, xq_1605, ⟨by decide +kernel, by decide +kernel, by decide +kernel⟩, by decide⟩
theorem mX11_loan {l : Launch} {G : xG} (hl : l.stackTraces = false) (x0 : Nat) (h0 : xOb 11 x0) (x1 : Int) (h1 : R32 x1) (M : xM) (hM : xcan M) : Cm l G yX11_loan cX11_loan 3 (some .long) 3 2 1 6 [.ref x0, iv x1] M (fX11_loan x0 x1 M) := by
  refine xcm_of (u := uX11_loan) (ls := [some (.ref x0), some (iv x1), none]) 1 hl rfl (by decide +kernel) (Nat.le_of_ble_eq_true rfl) rfl ?_
  unfold fX11_loan
  refine xg_aload_n dX11_loan_0 (Eq.refl 1) rfl ?_
  refine xg_iload_n dX11_loan_1 (Eq.refl 2) rfl ?_
  refine xg_callV_N (kc := 0) (ks := 0) (st := []) (mX11_needLoan hl x0 h0 x1 h1 M hM) bX11_needLoan xcl11 h0 rfl xq_1180 rfl (by decide) rfl (by decide) dX11_loan_2 (Eq.refl 5) rfl (by decide) (by decide) ?_
  intro z1 M2 hz1 hM2
  refine xg_aload_n dX11_loan_5 (Eq.refl 6) rfl ?_
  refine xg_getR (k := 1) xcl11 h0 rfl xq_21 rfl (xt_11_1 h0).1 dX11_loan_6 (Eq.refl 9) ?_
  refine xg_iload_n dX11_loan_9 (Eq.refl 10) rfl ?_
  refine xg_callV_R (cr := 7) (kc := 0) (ks := 0) (st := []) (mX1_loanAt hl (xr x0 1) (xt_11_1 h0).2 x1 h1 M2 hM2) bX1_loanAt xcl1 (xt_11_1 h0).2 rfl xq_1185 rfl (by decide) rfl (by decide) dX11_loan_10 (Eq.refl 13) rfl (by decide) (by decide) ?_
  intro z3 M4 hz3 hM4
  refine xg_astore_n (ls2 := [some (.ref x0), some (iv x1), some (.ref z3.toNat)]) dX11_loan_13 (Eq.refl 14) (by decide) rfl ?_
  refine xg_aload_n dX11_loan_14 (Eq.refl 15) rfl ?_
  refine xg_getZ (k := 6) xcl7 hz3 rfl xq_1177 rfl dX11_loan_15 (Eq.refl 18) hM4 ?_
  refine xg_if_eq (tgt := 27) dX11_loan_18 (Eq.refl 21) (by decide) (B01.r (hM4.Z hz3 rfl)) ?_ ?_
  · refine xg_aload_n dX11_loan_27 (Eq.refl 28) rfl ?_
    refine xg_getJ (k := 3) xcl7 hz3 rfl xq_1179 rfl dX11_loan_28 (Eq.refl 31) ?_
    exact xg_lret rfl dX11_loan_31 rfl hM4 (hM4.J hz3 rfl)
  · refine xg_ldc2 (z := (-1)) xq_1352 dX11_loan_21 (Eq.refl 24) (by decide +kernel) ?_
    refine xg_goto (tgt := 31) dX11_loan_24 (by decide) ?_
    exact xg_lret rfl dX11_loan_31 rfl hM4 (by decide)
abbrev uX12_thrown : xU := (RX12, cX12_thrown, 1, (some .int), [], "thrown")
theorem bX12_thrown : xYV yX12_thrown cX12_thrown 1 (some .int) 0 := ⟨xq_193, xq_194, xq_5, xq_195, ⟨by decide +kernel, by decide +kernel, by decide +kernel⟩, by decide⟩
theorem mX12_thrown {l : Launch} {G : xG} (hl : l.stackTraces = false) (x0 : Nat) (h0 : xOb 12 x0) (M : xM) (hM : xcan M) : Cm l G yX12_thrown cX12_thrown 1 (some .int) 1 0 0 0 [.ref x0] M (fX12_thrown x0 M) := by
  refine xcm_of (u := uX12_thrown) (ls := [some (.ref x0)]) 0 hl rfl (by decide +kernel) (Nat.le_of_ble_eq_true rfl) rfl ?_
  unfold fX12_thrown
  refine xg_aload_n dX12_thrown_0 (Eq.refl 1) rfl ?_
  refine xg_getI (k := 7) xcl12 h0 rfl xq_191 rfl dX12_thrown_1 (Eq.refl 4) ?_
  exact xg_iret rfl dX12_thrown_4 rfl hM (hM.I h0 rfl)
abbrev uX12_holds : xU := (RX12, cX12_holds, 2, (some .boolean), [], "holds")
theorem bX12_holds : xYV yX12_holds cX12_holds 2 (some .boolean) 1 := ⟨xq_188, xq_189, xq_5, xq_190, ⟨by decide +kernel, by decide +kernel, by decide +kernel⟩, by decide⟩
theorem mX12_holds {l : Launch} {G : xG} (hl : l.stackTraces = false) (x0 : Nat) (h0 : xOb 12 x0) (x1 : Int) (h1 : R32 x1) (M : xM) (hM : xcan M) : Cm l G yX12_holds cX12_holds 2 (some .boolean) 1 1 0 0 [.ref x0, iv x1] M (fX12_holds x0 x1 M) := by
  refine xcm_of (u := uX12_holds) (ls := [some (.ref x0), some (iv x1)]) 0 hl rfl (by decide +kernel) (Nat.le_of_ble_eq_true rfl) rfl ?_
  unfold fX12_holds
  refine xg_aload_n dX12_holds_0 (Eq.refl 1) rfl ?_
  refine xg_iload_n dX12_holds_1 (Eq.refl 2) rfl ?_
  refine xg_putI (k := 7) xcl12 h0 rfl xq_191 rfl (by decide +kernel) dX12_holds_2 (Eq.refl 5) rfl hM h1 ?_
  intro M1 hM1
  refine xg_iload_n dX12_holds_5 (Eq.refl 6) rfl ?_
  refine xg_if_le (tgt := 13) dX12_holds_6 (Eq.refl 9) (by decide) h1 ?_ ?_
  · refine xg_iconst dX12_holds_13 (Eq.refl 14) ?_
    exact xg_zret rfl dX12_holds_14 rfl hM1 (by decide)
  · refine xg_iconst dX12_holds_9 (Eq.refl 10) ?_
    refine xg_goto (tgt := 14) dX12_holds_10 (by decide) ?_
    exact xg_zret rfl dX12_holds_14 rfl hM1 (by decide)
abbrev uX12_in : xU := (RX12, cX12_in, 7, (some .boolean), [], "in")
theorem bX12_in : xYV yX12_in cX12_in 7 (some .boolean) 3 := ⟨xq_180, xq_181, xq_5, xq_182, ⟨by decide +kernel, by decide +kernel, by decide +kernel⟩, by decide⟩
theorem mX12_in {l : Launch} {G : xG} (hl : l.stackTraces = false) (x0 : Nat) (h0 : xOb 12 x0) (x1 : Int) (h1 : R64 x1) (x3 : Int) (h3 : R64 x3) (x5 : Int) (h5 : R64 x5) (M : xM) (hM : xcan M) : Cm l G yX12_in cX12_in 7 (some .boolean) 1 1 0 0 [.ref x0, jv x1, jv x3, jv x5] M (fX12_in x0 x1 x3 x5 M) := by
  refine xcm_of (u := uX12_in) (ls := [some (.ref x0), some (jv x1), none, some (jv x3), none, some (jv x5), none]) 0 hl rfl (by decide +kernel) (Nat.le_of_ble_eq_true rfl) rfl ?_
  unfold fX12_in
  refine xg_lload_n dX12_in_0 (Eq.refl 1) rfl ?_
  refine xg_lload_n dX12_in_1 (Eq.refl 2) rfl ?_
  refine xg_lif_lt (tgt := 17) dX12_in_2 (Eq.refl 3) dX12_in_3 (Eq.refl 6) (by decide) h1 h3 ?_ ?_
  · refine xg_iconst dX12_in_17 (Eq.refl 18) ?_
    exact xg_zret rfl dX12_in_18 rfl hM (by decide)
  · refine xg_lload_n dX12_in_6 (Eq.refl 7) rfl ?_
    refine xg_lload dX12_in_7 (Eq.refl 9) rfl ?_
    refine xg_lif_gt (tgt := 17) dX12_in_9 (Eq.refl 10) dX12_in_10 (Eq.refl 13) (by decide) h1 h5 ?_ ?_
    · refine xg_iconst dX12_in_17 (Eq.refl 18) ?_
      exact xg_zret rfl dX12_in_18 rfl hM (by decide)
    · refine xg_iconst dX12_in_13 (Eq.refl 14) ?_
      refine xg_goto (tgt := 18) dX12_in_14 (by decide) ?_
      exact xg_zret rfl dX12_in_18 rfl hM (by decide)
abbrev uX12_isAccount : xU := (RX12, cX12_isAccount, 2, (some .boolean), [], "isAccount")
theorem bX12_isAccount : xYV yX12_isAccount cX12_isAccount 2 (some .boolean) 1 := ⟨xq_184, xq_185, xq_5, xq_186, ⟨by decide +kernel, by decide +kernel, by decide +kernel⟩, by decide⟩
theorem mX12_isAccount {l : Launch} {G : xG} (hl : l.stackTraces = false) (x0 : Nat) (h0 : xOb 12 x0) (x1 : Int) (h1 : R32 x1) (M : xM) (hM : xcan M) : Cm l G yX12_isAccount cX12_isAccount 2 (some .boolean) 2 1 0 0 [.ref x0, iv x1] M (fX12_isAccount x0 x1 M) := by
  refine xcm_of (u := uX12_isAccount) (ls := [some (.ref x0), some (iv x1)]) 0 hl rfl (by decide +kernel) (Nat.le_of_ble_eq_true rfl) rfl ?_
  unfold fX12_isAccount
  refine xg_aload_n dX12_isAccount_0 (Eq.refl 1) rfl ?_
  refine xg_iload_n dX12_isAccount_1 (Eq.refl 2) rfl ?_
  refine xg_i2l dX12_isAccount_2 (Eq.refl 3) h1 ?_
  refine xg_lconst (z := 0) dX12_isAccount_3 (Eq.refl 4) rfl ?_
  refine xg_aload_n dX12_isAccount_4 (Eq.refl 5) rfl ?_
  refine xg_getR (k := 0) xcl12 h0 rfl xq_122 rfl (xt_12_0 h0).1 dX12_isAccount_5 (Eq.refl 8) ?_
  refine xg_sipush dX12_isAccount_8 (Eq.refl 11) (by decide +kernel) ?_
  refine xg_laldk (k := 1540) (xt_12_0 h0).2 dX12_isAccount_11 (Eq.refl 12) rfl (by decide) ?_
  refine xg_lconst (z := 1) dX12_isAccount_12 (Eq.refl 13) rfl ?_
  refine xg_lsub dX12_isAccount_13 (Eq.refl 14) ?_
  refine xg_callV_Z (kc := 0) (ks := 0) (st := []) (mX12_in hl x0 h0 x1 (R32.j h1) 0 (by decide) (w64 ((M (xr x0 0) 1540) - 1)) (w64_r _) M hM) bX12_in xcl12 h0 rfl xq_179 rfl (by decide) rfl (by decide) dX12_isAccount_14 (Eq.refl 17) rfl (by decide) (by decide) ?_
  intro z1 M2 hz1 hM2
  exact xg_zret rfl dX12_isAccount_17 rfl hM2 hz1
abbrev uX12_isSecurity : xU := (RX12, cX12_isSecurity, 2, (some .boolean), [], "isSecurity")
theorem bX12_isSecurity : xYV yX12_isSecurity cX12_isSecurity 2 (some .boolean) 1 := ⟨xq_294, xq_295, xq_5, xq_296, ⟨by decide +kernel, by decide +kernel, by decide +kernel⟩, by decide⟩
theorem mX12_isSecurity {l : Launch} {G : xG} (hl : l.stackTraces = false) (x0 : Nat) (h0 : xOb 12 x0) (x1 : Int) (h1 : R32 x1) (M : xM) (hM : xcan M) : Cm l G yX12_isSecurity cX12_isSecurity 2 (some .boolean) 2 1 0 0 [.ref x0, iv x1] M (fX12_isSecurity x0 x1 M) := by
  refine xcm_of (u := uX12_isSecurity) (ls := [some (.ref x0), some (iv x1)]) 0 hl rfl (by decide +kernel) (Nat.le_of_ble_eq_true rfl) rfl ?_
  unfold fX12_isSecurity
  refine xg_aload_n dX12_isSecurity_0 (Eq.refl 1) rfl ?_
  refine xg_iload_n dX12_isSecurity_1 (Eq.refl 2) rfl ?_
  refine xg_i2l dX12_isSecurity_2 (Eq.refl 3) h1 ?_
  refine xg_lconst (z := 0) dX12_isSecurity_3 (Eq.refl 4) rfl ?_
  refine xg_aload_n dX12_isSecurity_4 (Eq.refl 5) rfl ?_
  refine xg_getR (k := 0) xcl12 h0 rfl xq_122 rfl (xt_12_0 h0).1 dX12_isSecurity_5 (Eq.refl 8) ?_
  refine xg_sipush dX12_isSecurity_8 (Eq.refl 11) (by decide +kernel) ?_
  refine xg_laldk (k := 1541) (xt_12_0 h0).2 dX12_isSecurity_11 (Eq.refl 12) rfl (by decide) ?_
  refine xg_lconst (z := 1) dX12_isSecurity_12 (Eq.refl 13) rfl ?_
  refine xg_lsub dX12_isSecurity_13 (Eq.refl 14) ?_
  refine xg_callV_Z (kc := 0) (ks := 0) (st := []) (mX12_in hl x0 h0 x1 (R32.j h1) 0 (by decide) (w64 ((M (xr x0 0) 1541) - 1)) (w64_r _) M hM) bX12_in xcl12 h0 rfl xq_179 rfl (by decide) rfl (by decide) dX12_isSecurity_14 (Eq.refl 17) rfl (by decide) (by decide) ?_
  intro z1 M2 hz1 hM2
  exact xg_zret rfl dX12_isSecurity_17 rfl hM2 hz1
abbrev uX12_isInstruction : xU := (RX12, cX12_isInstruction, 2, (some .boolean), [], "isInstruction")
theorem bX12_isInstruction : xYV yX12_isInstruction cX12_isInstruction 2 (some .boolean) 1 := ⟨xq_518, xq_519, xq_5, xq_520, ⟨by decide +kernel, by decide +kernel, by decide +kernel⟩, by decide⟩
theorem mX12_isInstruction {l : Launch} {G : xG} (hl : l.stackTraces = false) (x0 : Nat) (h0 : xOb 12 x0) (x1 : Int) (h1 : R32 x1) (M : xM) (hM : xcan M) : Cm l G yX12_isInstruction cX12_isInstruction 2 (some .boolean) 2 1 0 0 [.ref x0, iv x1] M (fX12_isInstruction x0 x1 M) := by
  refine xcm_of (u := uX12_isInstruction) (ls := [some (.ref x0), some (iv x1)]) 0 hl rfl (by decide +kernel) (Nat.le_of_ble_eq_true rfl) rfl ?_
  unfold fX12_isInstruction
  refine xg_aload_n dX12_isInstruction_0 (Eq.refl 1) rfl ?_
  refine xg_iload_n dX12_isInstruction_1 (Eq.refl 2) rfl ?_
  refine xg_i2l dX12_isInstruction_2 (Eq.refl 3) h1 ?_
  refine xg_lconst (z := 0) dX12_isInstruction_3 (Eq.refl 4) rfl ?_
  refine xg_aload_n dX12_isInstruction_4 (Eq.refl 5) rfl ?_
  refine xg_getR (k := 0) xcl12 h0 rfl xq_122 rfl (xt_12_0 h0).1 dX12_isInstruction_5 (Eq.refl 8) ?_
  refine xg_sipush dX12_isInstruction_8 (Eq.refl 11) (by decide +kernel) ?_
  refine xg_laldk (k := 1542) (xt_12_0 h0).2 dX12_isInstruction_11 (Eq.refl 12) rfl (by decide) ?_
  refine xg_lconst (z := 1) dX12_isInstruction_12 (Eq.refl 13) rfl ?_
  refine xg_lsub dX12_isInstruction_13 (Eq.refl 14) ?_
  refine xg_callV_Z (kc := 0) (ks := 0) (st := []) (mX12_in hl x0 h0 x1 (R32.j h1) 0 (by decide) (w64 ((M (xr x0 0) 1542) - 1)) (w64_r _) M hM) bX12_in xcl12 h0 rfl xq_179 rfl (by decide) rfl (by decide) dX12_isInstruction_14 (Eq.refl 17) rfl (by decide) (by decide) ?_
  intro z1 M2 hz1 hM2
  exact xg_zret rfl dX12_isInstruction_17 rfl hM2 hz1
abbrev uX12_isTrade : xU := (RX12, cX12_isTrade, 2, (some .boolean), [], "isTrade")
theorem bX12_isTrade : xYV yX12_isTrade cX12_isTrade 2 (some .boolean) 1 := ⟨xq_608, xq_609, xq_5, xq_610, ⟨by decide +kernel, by decide +kernel, by decide +kernel⟩, by decide⟩
theorem mX12_isTrade {l : Launch} {G : xG} (hl : l.stackTraces = false) (x0 : Nat) (h0 : xOb 12 x0) (x1 : Int) (h1 : R32 x1) (M : xM) (hM : xcan M) : Cm l G yX12_isTrade cX12_isTrade 2 (some .boolean) 2 1 0 0 [.ref x0, iv x1] M (fX12_isTrade x0 x1 M) := by
  refine xcm_of (u := uX12_isTrade) (ls := [some (.ref x0), some (iv x1)]) 0 hl rfl (by decide +kernel) (Nat.le_of_ble_eq_true rfl) rfl ?_
  unfold fX12_isTrade
  refine xg_aload_n dX12_isTrade_0 (Eq.refl 1) rfl ?_
  refine xg_iload_n dX12_isTrade_1 (Eq.refl 2) rfl ?_
  refine xg_i2l dX12_isTrade_2 (Eq.refl 3) h1 ?_
  refine xg_lconst (z := 0) dX12_isTrade_3 (Eq.refl 4) rfl ?_
  refine xg_aload_n dX12_isTrade_4 (Eq.refl 5) rfl ?_
  refine xg_getR (k := 0) xcl12 h0 rfl xq_122 rfl (xt_12_0 h0).1 dX12_isTrade_5 (Eq.refl 8) ?_
  refine xg_sipush dX12_isTrade_8 (Eq.refl 11) (by decide +kernel) ?_
  refine xg_laldk (k := 1543) (xt_12_0 h0).2 dX12_isTrade_11 (Eq.refl 12) rfl (by decide) ?_
  refine xg_lconst (z := 1) dX12_isTrade_12 (Eq.refl 13) rfl ?_
  refine xg_lsub dX12_isTrade_13 (Eq.refl 14) ?_
  refine xg_callV_Z (kc := 0) (ks := 0) (st := []) (mX12_in hl x0 h0 x1 (R32.j h1) 0 (by decide) (w64 ((M (xr x0 0) 1543) - 1)) (w64_r _) M hM) bX12_in xcl12 h0 rfl xq_179 rfl (by decide) rfl (by decide) dX12_isTrade_14 (Eq.refl 17) rfl (by decide) (by decide) ?_
  intro z1 M2 hz1 hM2
  exact xg_zret rfl dX12_isTrade_17 rfl hM2 hz1
abbrev uX12_isEvent : xU := (RX12, cX12_isEvent, 2, (some .boolean), [], "isEvent")
theorem bX12_isEvent : xYV yX12_isEvent cX12_isEvent 2 (some .boolean) 1 := ⟨xq_1342, xq_1343, xq_5, xq_1344, ⟨by decide +kernel, by decide +kernel, by decide +kernel⟩, by decide⟩
theorem mX12_isEvent {l : Launch} {G : xG} (hl : l.stackTraces = false) (x0 : Nat) (h0 : xOb 12 x0) (x1 : Int) (h1 : R32 x1) (M : xM) (hM : xcan M) : Cm l G yX12_isEvent cX12_isEvent 2 (some .boolean) 2 1 0 0 [.ref x0, iv x1] M (fX12_isEvent x0 x1 M) := by
  refine xcm_of (u := uX12_isEvent) (ls := [some (.ref x0), some (iv x1)]) 0 hl rfl (by decide +kernel) (Nat.le_of_ble_eq_true rfl) rfl ?_
  unfold fX12_isEvent
  refine xg_aload_n dX12_isEvent_0 (Eq.refl 1) rfl ?_
  refine xg_iload_n dX12_isEvent_1 (Eq.refl 2) rfl ?_
  refine xg_i2l dX12_isEvent_2 (Eq.refl 3) h1 ?_
  refine xg_lconst (z := 0) dX12_isEvent_3 (Eq.refl 4) rfl ?_
  refine xg_aload_n dX12_isEvent_4 (Eq.refl 5) rfl ?_
  refine xg_getR (k := 0) xcl12 h0 rfl xq_122 rfl (xt_12_0 h0).1 dX12_isEvent_5 (Eq.refl 8) ?_
  refine xg_sipush dX12_isEvent_8 (Eq.refl 11) (by decide +kernel) ?_
  refine xg_laldk (k := 1546) (xt_12_0 h0).2 dX12_isEvent_11 (Eq.refl 12) rfl (by decide) ?_
  refine xg_lconst (z := 1) dX12_isEvent_12 (Eq.refl 13) rfl ?_
  refine xg_lsub dX12_isEvent_13 (Eq.refl 14) ?_
  refine xg_callV_Z (kc := 0) (ks := 0) (st := []) (mX12_in hl x0 h0 x1 (R32.j h1) 0 (by decide) (w64 ((M (xr x0 0) 1546) - 1)) (w64_r _) M hM) bX12_in xcl12 h0 rfl xq_179 rfl (by decide) rfl (by decide) dX12_isEvent_14 (Eq.refl 17) rfl (by decide) (by decide) ?_
  intro z1 M2 hz1 hM2
  exact xg_zret rfl dX12_isEvent_17 rfl hM2 hz1
abbrev uX12_isLoan : xU := (RX12, cX12_isLoan, 2, (some .boolean), [], "isLoan")
theorem bX12_isLoan : xYV yX12_isLoan cX12_isLoan 2 (some .boolean) 1 := ⟨xq_1191, xq_1192, xq_5, xq_1193, ⟨by decide +kernel, by decide +kernel, by decide +kernel⟩, by decide⟩
theorem mX12_isLoan {l : Launch} {G : xG} (hl : l.stackTraces = false) (x0 : Nat) (h0 : xOb 12 x0) (x1 : Int) (h1 : R32 x1) (M : xM) (hM : xcan M) : Cm l G yX12_isLoan cX12_isLoan 2 (some .boolean) 2 1 0 0 [.ref x0, iv x1] M (fX12_isLoan x0 x1 M) := by
  refine xcm_of (u := uX12_isLoan) (ls := [some (.ref x0), some (iv x1)]) 0 hl rfl (by decide +kernel) (Nat.le_of_ble_eq_true rfl) rfl ?_
  unfold fX12_isLoan
  refine xg_aload_n dX12_isLoan_0 (Eq.refl 1) rfl ?_
  refine xg_iload_n dX12_isLoan_1 (Eq.refl 2) rfl ?_
  refine xg_i2l dX12_isLoan_2 (Eq.refl 3) h1 ?_
  refine xg_lconst (z := 0) dX12_isLoan_3 (Eq.refl 4) rfl ?_
  refine xg_aload_n dX12_isLoan_4 (Eq.refl 5) rfl ?_
  refine xg_getR (k := 0) xcl12 h0 rfl xq_122 rfl (xt_12_0 h0).1 dX12_isLoan_5 (Eq.refl 8) ?_
  refine xg_sipush dX12_isLoan_8 (Eq.refl 11) (by decide +kernel) ?_
  refine xg_laldk (k := 1545) (xt_12_0 h0).2 dX12_isLoan_11 (Eq.refl 12) rfl (by decide) ?_
  refine xg_lconst (z := 1) dX12_isLoan_12 (Eq.refl 13) rfl ?_
  refine xg_lsub dX12_isLoan_13 (Eq.refl 14) ?_
  refine xg_callV_Z (kc := 0) (ks := 0) (st := []) (mX12_in hl x0 h0 x1 (R32.j h1) 0 (by decide) (w64 ((M (xr x0 0) 1545) - 1)) (w64_r _) M hM) bX12_in xcl12 h0 rfl xq_179 rfl (by decide) rfl (by decide) dX12_isLoan_14 (Eq.refl 17) rfl (by decide) (by decide) ?_
  intro z1 M2 hz1 hM2
  exact xg_zret rfl dX12_isLoan_17 rfl hM2 hz1
abbrev uX12_freeOf : xU := (RX12, cX12_freeOf, 3, (some .long), [], "freeOf")
theorem bX12_freeOf : xYV yX12_freeOf cX12_freeOf 3 (some .long) 2 := ⟨xq_371, xq_372, xq_5, xq_373, ⟨by decide +kernel, by decide +kernel, by decide +kernel⟩, by decide⟩
theorem mX12_freeOf {l : Launch} {G : xG} (hl : l.stackTraces = false) (x0 : Nat) (h0 : xOb 12 x0) (x1 : Int) (h1 : R32 x1) (x2 : Int) (h2 : R32 x2) (M : xM) (hM : xcan M) : Cm l G yX12_freeOf cX12_freeOf 3 (some .long) 1 2 0 0 [.ref x0, iv x1, iv x2] M (fX12_freeOf x0 x1 x2 M) := by
  refine xcm_of (u := uX12_freeOf) (ls := [some (.ref x0), some (iv x1), some (iv x2)]) 0 hl rfl (by decide +kernel) (Nat.le_of_ble_eq_true rfl) rfl ?_
  unfold fX12_freeOf
  refine xg_aload_n dX12_freeOf_0 (Eq.refl 1) rfl ?_
  refine xg_getR (k := 0) xcl12 h0 rfl xq_122 rfl (xt_12_0 h0).1 dX12_freeOf_1 (Eq.refl 4) ?_
  refine xg_bipush dX12_freeOf_4 (Eq.refl 6) (by decide +kernel) ?_
  refine xg_iconst dX12_freeOf_6 (Eq.refl 7) ?_
  refine xg_iload_n dX12_freeOf_7 (Eq.refl 8) rfl ?_
  refine xg_imul dX12_freeOf_8 (Eq.refl 9) ?_
  refine xg_iadd dX12_freeOf_9 (Eq.refl 10) ?_
  refine xg_iload_n dX12_freeOf_10 (Eq.refl 11) rfl ?_
  refine xg_iadd dX12_freeOf_11 (Eq.refl 12) ?_
  refine xg_lald (xt_12_0 h0).2 dX12_freeOf_12 (Eq.refl 13) ?_
  refine xg_aload_n dX12_freeOf_13 (Eq.refl 14) rfl ?_
  refine xg_getR (k := 0) xcl12 h0 rfl xq_122 rfl (xt_12_0 h0).1 dX12_freeOf_14 (Eq.refl 17) ?_
  refine xg_sipush dX12_freeOf_17 (Eq.refl 20) (by decide +kernel) ?_
  refine xg_iconst dX12_freeOf_20 (Eq.refl 21) ?_
  refine xg_iload_n dX12_freeOf_21 (Eq.refl 22) rfl ?_
  refine xg_imul dX12_freeOf_22 (Eq.refl 23) ?_
  refine xg_iadd dX12_freeOf_23 (Eq.refl 24) ?_
  refine xg_iload_n dX12_freeOf_24 (Eq.refl 25) rfl ?_
  refine xg_iadd dX12_freeOf_25 (Eq.refl 26) ?_
  refine xg_lald (xt_12_0 h0).2 dX12_freeOf_26 (Eq.refl 27) ?_
  refine xg_lsub dX12_freeOf_27 (Eq.refl 28) ?_
  exact xg_lret rfl dX12_freeOf_28 rfl hM (w64_r _)
abbrev uX12_freeCash : xU := (RX12, cX12_freeCash, 2, (some .long), [], "freeCash")
theorem bX12_freeCash : xYV yX12_freeCash cX12_freeCash 2 (some .long) 1 := ⟨xq_363, xq_364, xq_5, xq_365, ⟨by decide +kernel, by decide +kernel, by decide +kernel⟩, by decide⟩
theorem mX12_freeCash {l : Launch} {G : xG} (hl : l.stackTraces = false) (x0 : Nat) (h0 : xOb 12 x0) (x1 : Int) (h1 : R32 x1) (M : xM) (hM : xcan M) : Cm l G yX12_freeCash cX12_freeCash 2 (some .long) 1 2 0 0 [.ref x0, iv x1] M (fX12_freeCash x0 x1 M) := by
  refine xcm_of (u := uX12_freeCash) (ls := [some (.ref x0), some (iv x1)]) 0 hl rfl (by decide +kernel) (Nat.le_of_ble_eq_true rfl) rfl ?_
  unfold fX12_freeCash
  refine xg_aload_n dX12_freeCash_0 (Eq.refl 1) rfl ?_
  refine xg_getR (k := 0) xcl12 h0 rfl xq_122 rfl (xt_12_0 h0).1 dX12_freeCash_1 (Eq.refl 4) ?_
  refine xg_bipush dX12_freeCash_4 (Eq.refl 6) (by decide +kernel) ?_
  refine xg_iload_n dX12_freeCash_6 (Eq.refl 7) rfl ?_
  refine xg_iadd dX12_freeCash_7 (Eq.refl 8) ?_
  refine xg_lald (xt_12_0 h0).2 dX12_freeCash_8 (Eq.refl 9) ?_
  refine xg_aload_n dX12_freeCash_9 (Eq.refl 10) rfl ?_
  refine xg_getR (k := 0) xcl12 h0 rfl xq_122 rfl (xt_12_0 h0).1 dX12_freeCash_10 (Eq.refl 13) ?_
  refine xg_bipush dX12_freeCash_13 (Eq.refl 15) (by decide +kernel) ?_
  refine xg_iload_n dX12_freeCash_15 (Eq.refl 16) rfl ?_
  refine xg_iadd dX12_freeCash_16 (Eq.refl 17) ?_
  refine xg_lald (xt_12_0 h0).2 dX12_freeCash_17 (Eq.refl 18) ?_
  refine xg_lsub dX12_freeCash_18 (Eq.refl 19) ?_
  exact xg_lret rfl dX12_freeCash_19 rfl hM (w64_r _)
abbrev uX12_half : xU := (RX12, cX12_half, 3, (some .long), [], "half")
theorem bX12_half : xYV yX12_half cX12_half 3 (some .long) 1 := ⟨xq_375, xq_376, xq_5, xq_377, ⟨by decide +kernel, by decide +kernel, by decide +kernel⟩, by decide⟩
theorem gX12_half_16 {l : Launch} {G : xG} (hl : l.stackTraces = false) (x1 : Int) (h1 : R64 x1) (M : xM) (hM : xcan M) : Gv l G uX12_half 1 2 0 0 16 [none, some (jv x1), none] [] M (fX12_half_16 x1 M) := by
  unfold fX12_half_16
  refine xg_lload_n dX12_half_16 (Eq.refl 17) rfl ?_
  refine xg_ldc2 (z := 2) xq_176 dX12_half_17 (Eq.refl 20) (by decide +kernel) ?_
  refine xg_ldivk dX12_half_20 (Eq.refl 21) h1 (by decide) ?_
  refine xg_goto (tgt := 31) dX12_half_21 (by decide) ?_
  exact xg_lret rfl dX12_half_31 rfl hM (xtd_r h1 (by decide))
theorem mX12_half {l : Launch} {G : xG} (hl : l.stackTraces = false) (x0 : Nat) (h0 : xOb 12 x0) (x1 : Int) (h1 : R64 x1) (M : xM) (hM : xcan M) : Cm l G yX12_half cX12_half 3 (some .long) 1 2 0 0 [.ref x0, jv x1] M (fX12_half x0 x1 M) := by
  refine xcm_of (u := uX12_half) (ls := [some (.ref x0), some (jv x1), none]) 0 hl rfl (by decide +kernel) (Nat.le_of_ble_eq_true rfl) rfl ?_
  unfold fX12_half
  refine xg_lload_n dX12_half_0 (Eq.refl 1) rfl ?_
  refine xg_lconst (z := 0) dX12_half_1 (Eq.refl 2) rfl ?_
  refine xg_lif_ge (tgt := 16) dX12_half_2 (Eq.refl 3) dX12_half_3 (Eq.refl 6) (by decide) h1 (by decide) ?_ ?_
  · exact xg_jump (gX12_half_16 hl x1 h1 M hM) (xsb_n (xsb_s (xsb_n xsb_0))) (by decide) (by decide)
  · refine xg_lload_n dX12_half_6 (Eq.refl 7) rfl ?_
    refine xg_ldc2 (z := 2) xq_176 dX12_half_7 (Eq.refl 10) (by decide +kernel) ?_
    refine xg_lremk dX12_half_10 (Eq.refl 11) h1 (by decide) ?_
    refine xg_lconst (z := 0) dX12_half_11 (Eq.refl 12) rfl ?_
    refine xg_lif_ne (tgt := 24) dX12_half_12 (Eq.refl 13) dX12_half_13 (Eq.refl 16) (by decide) (xrm_r (by decide)) (by decide) ?_ ?_
    · exact xg_jump (gX12_half_16 hl x1 h1 M hM) (xsb_n (xsb_s (xsb_n xsb_0))) (by decide) (by decide)
    · refine xg_lload_n dX12_half_24 (Eq.refl 25) rfl ?_
      refine xg_ldc2 (z := 2) xq_176 dX12_half_25 (Eq.refl 28) (by decide +kernel) ?_
      refine xg_ldivk dX12_half_28 (Eq.refl 29) h1 (by decide) ?_
      refine xg_lconst (z := 1) dX12_half_29 (Eq.refl 30) rfl ?_
      refine xg_lsub dX12_half_30 (Eq.refl 31) ?_
      exact xg_lret rfl dX12_half_31 rfl hM (w64_r _)
abbrev uX12_limitOf : xU := (RX12, cX12_limitOf, 5, (some .long), [], "limitOf")
theorem bX12_limitOf : xYV yX12_limitOf cX12_limitOf 5 (some .long) 1 := ⟨xq_367, xq_368, xq_5, xq_369, ⟨by decide +kernel, by decide +kernel, by decide +kernel⟩, by decide⟩
theorem gX12_limitOf_5 {l : Launch} {G : xG} (hl : l.stackTraces = false) (x0 : Nat) (h0 : xOb 12 x0) (x1 : Int) (h1 : R32 x1) : ∀ (n : Nat) (x2 : Int) (_ : R64 x2) (x4 : Int) (_ : R32 x4) (M : xM) (_ : xcan M), Gv l G uX12_limitOf 2 2 0 0 5 [some (.ref x0), some (iv x1), some (jv x2), none, some (iv x4)] [] M (fX12_limitOf_5 x0 x1 n x2 x4 M) := by
  intro n; induction n with
  | zero => intro x2 h2 x4 h4 M hM; exact xg_none
  | succ n ih =>
    intro x2 h2 x4 h4 M hM
    rw [fX12_limitOf_5]
    refine xg_iload dX12_limitOf_5 (Eq.refl 7) rfl ?_
    refine xg_i2l dX12_limitOf_7 (Eq.refl 8) h4 ?_
    refine xg_aload_n dX12_limitOf_8 (Eq.refl 9) rfl ?_
    refine xg_getR (k := 0) xcl12 h0 rfl xq_122 rfl (xt_12_0 h0).1 dX12_limitOf_9 (Eq.refl 12) ?_
    refine xg_sipush dX12_limitOf_12 (Eq.refl 15) (by decide +kernel) ?_
    refine xg_laldk (k := 1541) (xt_12_0 h0).2 dX12_limitOf_15 (Eq.refl 16) rfl (by decide) ?_
    refine xg_lif_ge (tgt := 48) dX12_limitOf_16 (Eq.refl 17) dX12_limitOf_17 (Eq.refl 20) (by decide) (R32.j h4) (hM.aj (xt_12_0 h0).2) ?_ ?_
    · refine xg_aload_n dX12_limitOf_48 (Eq.refl 49) rfl ?_
      refine xg_getR (k := 0) xcl12 h0 rfl xq_122 rfl (xt_12_0 h0).1 dX12_limitOf_49 (Eq.refl 52) ?_
      refine xg_bipush dX12_limitOf_52 (Eq.refl 54) (by decide +kernel) ?_
      refine xg_iload_n dX12_limitOf_54 (Eq.refl 55) rfl ?_
      refine xg_iadd dX12_limitOf_55 (Eq.refl 56) ?_
      refine xg_lald (xt_12_0 h0).2 dX12_limitOf_56 (Eq.refl 57) ?_
      refine xg_aload_n dX12_limitOf_57 (Eq.refl 58) rfl ?_
      refine xg_lload_n dX12_limitOf_58 (Eq.refl 59) rfl ?_
      refine xg_callV_J (kc := 0) (ks := 0) (st := [jv (M (xr x0 0) (w32 (50 + x1)).toNat)]) (mX12_half hl x0 h0 x2 h2 M hM) bX12_half xcl12 h0 rfl xq_374 rfl (by decide) rfl (Nat.le_of_ble_eq_true rfl) dX12_limitOf_59 (Eq.refl 62) rfl (by decide) (by decide) ?_
      intro z1 M2 hz1 hM2
      refine xg_ladd dX12_limitOf_62 (Eq.refl 63) ?_
      exact xg_lret rfl dX12_limitOf_63 rfl hM2 (w64_r _)
    · refine xg_lload_n dX12_limitOf_20 (Eq.refl 21) rfl ?_
      refine xg_aload_n dX12_limitOf_21 (Eq.refl 22) rfl ?_
      refine xg_iload_n dX12_limitOf_22 (Eq.refl 23) rfl ?_
      refine xg_iload dX12_limitOf_23 (Eq.refl 25) rfl ?_
      refine xg_callV_J (kc := 0) (ks := 0) (st := [jv x2]) (mX12_freeOf hl x0 h0 x1 h1 x4 h4 M hM) bX12_freeOf xcl12 h0 rfl xq_370 rfl (by decide) rfl (Nat.le_of_ble_eq_true rfl) dX12_limitOf_25 (Eq.refl 28) rfl (by decide) (by decide) ?_
      intro z3 M4 hz3 hM4
      refine xg_aload_n dX12_limitOf_28 (Eq.refl 29) rfl ?_
      refine xg_getR (k := 0) xcl12 h0 rfl xq_122 rfl (xt_12_0 h0).1 dX12_limitOf_29 (Eq.refl 32) ?_
      refine xg_sipush dX12_limitOf_32 (Eq.refl 35) (by decide +kernel) ?_
      refine xg_iload dX12_limitOf_35 (Eq.refl 37) rfl ?_
      refine xg_iadd dX12_limitOf_37 (Eq.refl 38) ?_
      refine xg_lald (xt_12_0 h0).2 dX12_limitOf_38 (Eq.refl 39) ?_
      refine xg_lmul dX12_limitOf_39 (Eq.refl 40) ?_
      refine xg_ladd dX12_limitOf_40 (Eq.refl 41) ?_
      refine xg_lstore_nL (P := R64) (ls2 := fun y5 => [some (.ref x0), some (iv x1), some (jv y5), none, some (iv x4)]) dX12_limitOf_41 (Eq.refl 42) (by decide) (w64_r _) (fun _ => rfl) ?_
      intro y5 hy5
      refine xg_iinc (ls2 := [some (.ref x0), some (iv x1), some (jv y5), none, some (iv (w32 (x4 + 1)))]) dX12_limitOf_42 (Eq.refl 45) rfl (by decide) rfl ?_
      refine xg_goto (tgt := 5) dX12_limitOf_45 (by decide) ?_
      exact xg_jump (ih y5 hy5 (w32 (x4 + 1)) (w32_r _) M4 hM4) (xsb_s (xsb_s (xsb_s (xsb_n (xsb_s xsb_0))))) (by decide) (by decide)
theorem mX12_limitOf {l : Launch} {G : xG} (hl : l.stackTraces = false) (x0 : Nat) (h0 : xOb 12 x0) (x1 : Int) (h1 : R32 x1) (M : xM) (hM : xcan M) : Cm l G yX12_limitOf cX12_limitOf 5 (some .long) 2 2 0 0 [.ref x0, iv x1] M (fX12_limitOf x0 x1 M) := by
  refine xcm_of (u := uX12_limitOf) (ls := [some (.ref x0), some (iv x1), none, none, none]) 3 hl rfl (by decide +kernel) (Nat.le_of_ble_eq_true rfl) rfl ?_
  unfold fX12_limitOf
  refine xg_lconst (z := 0) dX12_limitOf_0 (Eq.refl 1) rfl ?_
  refine xg_lstore_n (ls2 := [some (.ref x0), some (iv x1), some (jv 0), none, none]) dX12_limitOf_1 (Eq.refl 2) (by decide) rfl ?_
  refine xg_iconst dX12_limitOf_2 (Eq.refl 3) ?_
  refine xg_istore (ls2 := [some (.ref x0), some (iv x1), some (jv 0), none, some (iv 0)]) dX12_limitOf_3 (Eq.refl 5) (by decide) rfl ?_
  exact xg_jump (gX12_limitOf_5 hl x0 h0 x1 h1 xN 0 (by decide) 0 (by decide) M hM) (xsb_s (xsb_s (xsb_s (xsb_n (xsb_s xsb_0))))) (by decide) (by decide)
abbrev uX12_sound : xU := (RX12, cX12_sound, 4, (some .boolean), [], "sound")
theorem bX12_sound : xYV yX12_sound cX12_sound 4 (some .boolean) 1 := ⟨xq_359, xq_360, xq_5, xq_361, ⟨by decide +kernel, by decide +kernel, by decide +kernel⟩, by decide⟩
theorem gX12_sound_55 {l : Launch} {G : xG} (hl : l.stackTraces = false) (rc24 : Int → Int → xM → xO) (x0 : Nat) (h0 : xOb 12 x0) (x1 : Int) (h1 : R32 x1) (x3 : Int) (h3 : R32 x3) (s0 : Int) (hs0 : B01 s0) (s1 : Int) (hs1 : B01 s1) (hr24 : ∀ w2 : Int, B01 w2 → ∀ w3 : Int, R32 w3 → ∀ M : xM, xcan M → Gv l G uX12_sound 3 1 0 0 24 [some (.ref x0), some (iv x1), some (iv w2), some (iv w3)] [] M (rc24 w2 w3 M)) (M : xM) (hM : xcan M) : Gv l G uX12_sound 3 1 0 0 55 [some (.ref x0), some (iv x1), none, some (iv x3)] [iv s0, iv s1] M (fX12_sound_55 rc24 x0 x1 x3 s0 s1 M) := by
  unfold fX12_sound_55
  refine xg_iand dX12_sound_55 (Eq.refl 56) ?_
  refine xg_istore_n (ls2 := [some (.ref x0), some (iv x1), some (iv (xand s1 s0)), some (iv x3)]) dX12_sound_56 (Eq.refl 57) (by decide) rfl ?_
  refine xg_iinc (ls2 := [some (.ref x0), some (iv x1), some (iv (xand s1 s0)), some (iv (w32 (x3 + 1)))]) dX12_sound_57 (Eq.refl 60) rfl (by decide) rfl ?_
  refine xg_goto (tgt := 24) dX12_sound_60 (by decide) ?_
  exact xg_jump (hr24 (xand s1 s0) (xand_b hs1 hs0) (w32 (x3 + 1)) (w32_r _) M hM) (xsb_s (xsb_s (xsb_s (xsb_s xsb_0)))) (by decide) (by decide)
theorem gX12_sound_24 {l : Launch} {G : xG} (hl : l.stackTraces = false) (x0 : Nat) (h0 : xOb 12 x0) (x1 : Int) (h1 : R32 x1) : ∀ (n : Nat) (x2 : Int) (_ : B01 x2) (x3 : Int) (_ : R32 x3) (M : xM) (_ : xcan M), Gv l G uX12_sound 3 1 0 0 24 [some (.ref x0), some (iv x1), some (iv x2), some (iv x3)] [] M (fX12_sound_24 x0 x1 n x2 x3 M) := by
  intro n; induction n with
  | zero => intro x2 h2 x3 h3 M hM; exact xg_none
  | succ n ih =>
    intro x2 h2 x3 h3 M hM
    rw [fX12_sound_24]
    refine xg_iload_n dX12_sound_24 (Eq.refl 25) rfl ?_
    refine xg_i2l dX12_sound_25 (Eq.refl 26) h3 ?_
    refine xg_aload_n dX12_sound_26 (Eq.refl 27) rfl ?_
    refine xg_getR (k := 0) xcl12 h0 rfl xq_122 rfl (xt_12_0 h0).1 dX12_sound_27 (Eq.refl 30) ?_
    refine xg_sipush dX12_sound_30 (Eq.refl 33) (by decide +kernel) ?_
    refine xg_laldk (k := 1541) (xt_12_0 h0).2 dX12_sound_33 (Eq.refl 34) rfl (by decide) ?_
    refine xg_lif_ge (tgt := 63) dX12_sound_34 (Eq.refl 35) dX12_sound_35 (Eq.refl 38) (by decide) (R32.j h3) (hM.aj (xt_12_0 h0).2) ?_ ?_
    · refine xg_iload_n dX12_sound_63 (Eq.refl 64) rfl ?_
      exact xg_zret rfl dX12_sound_64 rfl hM h2
    · refine xg_iload_n dX12_sound_38 (Eq.refl 39) rfl ?_
      refine xg_aload_n dX12_sound_39 (Eq.refl 40) rfl ?_
      refine xg_iload_n dX12_sound_40 (Eq.refl 41) rfl ?_
      refine xg_iload_n dX12_sound_41 (Eq.refl 42) rfl ?_
      refine xg_callV_J (kc := 0) (ks := 0) (st := [iv x2]) (mX12_freeOf hl x0 h0 x1 h1 x3 h3 M hM) bX12_freeOf xcl12 h0 rfl xq_370 rfl (by decide) rfl (Nat.le_of_ble_eq_true rfl) dX12_sound_42 (Eq.refl 45) rfl (by decide) (by decide) ?_
      intro z1 M2 hz1 hM2
      refine xg_lconst (z := 0) dX12_sound_45 (Eq.refl 46) rfl ?_
      refine xg_lif_lt (tgt := 54) dX12_sound_46 (Eq.refl 47) dX12_sound_47 (Eq.refl 50) (by decide) hz1 (by decide) ?_ ?_
      · refine xg_iconst dX12_sound_54 (Eq.refl 55) ?_
        exact xg_jump (gX12_sound_55 hl (fX12_sound_24 x0 x1 n) x0 h0 x1 h1 x3 h3 0 (by decide) x2 h2 ih M2 hM2) (xsb_s (xsb_s (xsb_n (xsb_s xsb_0)))) (by decide) (by decide)
      · refine xg_iconst dX12_sound_50 (Eq.refl 51) ?_
        refine xg_goto (tgt := 55) dX12_sound_51 (by decide) ?_
        exact xg_jump (gX12_sound_55 hl (fX12_sound_24 x0 x1 n) x0 h0 x1 h1 x3 h3 1 (by decide) x2 h2 ih M2 hM2) (xsb_s (xsb_s (xsb_n (xsb_s xsb_0)))) (by decide) (by decide)
theorem gX12_sound_21 {l : Launch} {G : xG} (hl : l.stackTraces = false) (x0 : Nat) (h0 : xOb 12 x0) (x1 : Int) (h1 : R32 x1) (s0 : Int) (hs0 : B01 s0) (M : xM) (hM : xcan M) : Gv l G uX12_sound 3 1 0 0 21 [some (.ref x0), some (iv x1), none, none] [iv s0] M (fX12_sound_21 x0 x1 s0 M) := by
  unfold fX12_sound_21
  refine xg_istore_n (ls2 := [some (.ref x0), some (iv x1), some (iv s0), none]) dX12_sound_21 (Eq.refl 22) (by decide) rfl ?_
  refine xg_iconst dX12_sound_22 (Eq.refl 23) ?_
  refine xg_istore_n (ls2 := [some (.ref x0), some (iv x1), some (iv s0), some (iv 0)]) dX12_sound_23 (Eq.refl 24) (by decide) rfl ?_
  exact xg_jump (gX12_sound_24 hl x0 h0 x1 h1 xN s0 hs0 0 (by decide) M hM) (xsb_s (xsb_s (xsb_s (xsb_s xsb_0)))) (by decide) (by decide)
theorem mX12_sound {l : Launch} {G : xG} (hl : l.stackTraces = false) (x0 : Nat) (h0 : xOb 12 x0) (x1 : Int) (h1 : R32 x1) (M : xM) (hM : xcan M) : Cm l G yX12_sound cX12_sound 4 (some .boolean) 3 1 0 0 [.ref x0, iv x1] M (fX12_sound x0 x1 M) := by
  refine xcm_of (u := uX12_sound) (ls := [some (.ref x0), some (iv x1), none, none]) 2 hl rfl (by decide +kernel) (Nat.le_of_ble_eq_true rfl) rfl ?_
  unfold fX12_sound
  refine xg_aload_n dX12_sound_0 (Eq.refl 1) rfl ?_
  refine xg_iload_n dX12_sound_1 (Eq.refl 2) rfl ?_
  refine xg_callV_J (kc := 0) (ks := 0) (st := []) (mX12_freeCash hl x0 h0 x1 h1 M hM) bX12_freeCash xcl12 h0 rfl xq_362 rfl (by decide) rfl (by decide) dX12_sound_2 (Eq.refl 5) rfl (by decide) (by decide) ?_
  intro z1 M2 hz1 hM2
  refine xg_aload_n dX12_sound_5 (Eq.refl 6) rfl ?_
  refine xg_iload_n dX12_sound_6 (Eq.refl 7) rfl ?_
  refine xg_callV_J (kc := 0) (ks := 0) (st := [jv z1]) (mX12_limitOf hl x0 h0 x1 h1 M2 hM2) bX12_limitOf xcl12 h0 rfl xq_366 rfl (by decide) rfl (Nat.le_of_ble_eq_true rfl) dX12_sound_7 (Eq.refl 10) rfl (by decide) (by decide) ?_
  intro z3 M4 hz3 hM4
  refine xg_ladd dX12_sound_10 (Eq.refl 11) ?_
  refine xg_lconst (z := 0) dX12_sound_11 (Eq.refl 12) rfl ?_
  refine xg_lif_lt (tgt := 20) dX12_sound_12 (Eq.refl 13) dX12_sound_13 (Eq.refl 16) (by decide) (w64_r _) (by decide) ?_ ?_
  · refine xg_iconst dX12_sound_20 (Eq.refl 21) ?_
    exact xg_jump (gX12_sound_21 hl x0 h0 x1 h1 0 (by decide) M4 hM4) (xsb_s (xsb_s (xsb_n (xsb_n xsb_0)))) (by decide) (by decide)
  · refine xg_iconst dX12_sound_16 (Eq.refl 17) ?_
    refine xg_goto (tgt := 21) dX12_sound_17 (by decide) ?_
    exact xg_jump (gX12_sound_21 hl x0 h0 x1 h1 1 (by decide) M4 hM4) (xsb_s (xsb_s (xsb_n (xsb_n xsb_0)))) (by decide) (by decide)
abbrev uX12_open : xU := (RX12, cX12_open, 10, (some .int), [], "open")
theorem bX12_open : xYV yX12_open cX12_open 10 (some .int) 5 := ⟨xq_173, xq_174, xq_5, xq_175, ⟨by decide +kernel, by decide +kernel, by decide +kernel⟩, by decide⟩
theorem gX12_open_189 {l : Launch} {G : xG} (hl : l.stackTraces = false) (x0 : Nat) (h0 : xOb 12 x0) (x3 : Int) (h3 : R32 x3) (x4 : Int) (h4 : R32 x4) (x5 : Int) (h5 : R32 x5) (x9 : Int) (h9 : R32 x9) (s0 : Int) (hs0 : R64 s0) (s1 : Int) (hs1 : R32 s1) (s2 : Nat) (hs2 : xAn 1 1550 s2) (M : xM) (hM : xcan M) : Gv l G uX12_open 3 0 0 0 189 [some (.ref x0), none, none, some (iv x3), some (iv x4), some (iv x5), none, none, none, some (iv x9)] [jv s0, iv s1, .ref s2] M (fX12_open_189 x0 x3 x4 x5 x9 s0 s1 s2 M) := by
  unfold fX12_open_189
  refine xg_last hs2 dX12_open_189 (Eq.refl 190) hM hs0 ?_
  intro M1 hM1
  refine xg_aload_n dX12_open_190 (Eq.refl 191) rfl ?_
  refine xg_getR (k := 0) xcl12 h0 rfl xq_122 rfl (xt_12_0 h0).1 dX12_open_191 (Eq.refl 194) ?_
  refine xg_bipush dX12_open_194 (Eq.refl 196) (by decide +kernel) ?_
  refine xg_iload dX12_open_196 (Eq.refl 198) rfl ?_
  refine xg_iadd dX12_open_198 (Eq.refl 199) ?_
  refine xg_iload_n dX12_open_199 (Eq.refl 200) rfl ?_
  refine xg_i2l dX12_open_200 (Eq.refl 201) h3 ?_
  refine xg_last (xt_12_0 h0).2 dX12_open_201 (Eq.refl 202) hM1 (R32.j h3) ?_
  intro M2 hM2
  refine xg_aload_n dX12_open_202 (Eq.refl 203) rfl ?_
  refine xg_getR (k := 0) xcl12 h0 rfl xq_122 rfl (xt_12_0 h0).1 dX12_open_203 (Eq.refl 206) ?_
  refine xg_bipush dX12_open_206 (Eq.refl 208) (by decide +kernel) ?_
  refine xg_iload dX12_open_208 (Eq.refl 210) rfl ?_
  refine xg_iadd dX12_open_210 (Eq.refl 211) ?_
  refine xg_iload dX12_open_211 (Eq.refl 213) rfl ?_
  refine xg_i2l dX12_open_213 (Eq.refl 214) h4 ?_
  refine xg_last (xt_12_0 h0).2 dX12_open_214 (Eq.refl 215) hM2 (R32.j h4) ?_
  intro M3 hM3
  refine xg_aload_n dX12_open_215 (Eq.refl 216) rfl ?_
  refine xg_getR (k := 0) xcl12 h0 rfl xq_122 rfl (xt_12_0 h0).1 dX12_open_216 (Eq.refl 219) ?_
  refine xg_bipush dX12_open_219 (Eq.refl 221) (by decide +kernel) ?_
  refine xg_iload dX12_open_221 (Eq.refl 223) rfl ?_
  refine xg_iadd dX12_open_223 (Eq.refl 224) ?_
  refine xg_iload dX12_open_224 (Eq.refl 226) rfl ?_
  refine xg_i2l dX12_open_226 (Eq.refl 227) h5 ?_
  refine xg_last (xt_12_0 h0).2 dX12_open_227 (Eq.refl 228) hM3 (R32.j h5) ?_
  intro M4 hM4
  refine xg_aload_n dX12_open_228 (Eq.refl 229) rfl ?_
  refine xg_getR (k := 0) xcl12 h0 rfl xq_122 rfl (xt_12_0 h0).1 dX12_open_229 (Eq.refl 232) ?_
  refine xg_sipush dX12_open_232 (Eq.refl 235) (by decide +kernel) ?_
  refine xg_dup2 dX12_open_235 (Eq.refl 236) rfl rfl ?_
  refine xg_laldk (k := 1540) (xt_12_0 h0).2 dX12_open_236 (Eq.refl 237) rfl (by decide) ?_
  refine xg_lconst (z := 1) dX12_open_237 (Eq.refl 238) rfl ?_
  refine xg_ladd dX12_open_238 (Eq.refl 239) ?_
  refine xg_lastk (k := 1540) (xt_12_0 h0).2 dX12_open_239 (Eq.refl 240) rfl (by decide) hM4 (w64_r _) ?_
  intro M5 hM5
  refine xg_iload dX12_open_240 (Eq.refl 242) rfl ?_
  exact xg_iret rfl dX12_open_242 rfl hM5 h9
theorem gX12_open_188 {l : Launch} {G : xG} (hl : l.stackTraces = false) (x0 : Nat) (h0 : xOb 12 x0) (x3 : Int) (h3 : R32 x3) (x4 : Int) (h4 : R32 x4) (x5 : Int) (h5 : R32 x5) (x9 : Int) (h9 : R32 x9) (s0 : Int) (hs0 : R32 s0) (s1 : Nat) (hs1 : xAn 1 1550 s1) (M : xM) (hM : xcan M) : Gv l G uX12_open 3 0 0 0 188 [some (.ref x0), none, none, some (iv x3), some (iv x4), some (iv x5), none, none, none, some (iv x9)] [iv s0, .ref s1] M (fX12_open_188 x0 x3 x4 x5 x9 s0 s1 M) := by
  unfold fX12_open_188
  refine xg_lconst (z := 0) dX12_open_188 (Eq.refl 189) rfl ?_
  exact xg_jump (gX12_open_189 hl x0 h0 x3 h3 x4 h4 x5 h5 x9 h9 0 (by decide) s0 hs0 s1 hs1 M hM) (xsb_s (xsb_n (xsb_n (xsb_s (xsb_s (xsb_s (xsb_n (xsb_n (xsb_n (xsb_s xsb_0)))))))))) (by decide) (by decide)
theorem gX12_open_139 {l : Launch} {G : xG} (hl : l.stackTraces = false) (x0 : Nat) (h0 : xOb 12 x0) (x1 : Int) (h1 : R32 x1) (x2 : Int) (h2 : B01 x2) (x3 : Int) (h3 : R32 x3) (x4 : Int) (h4 : R32 x4) (x5 : Int) (h5 : R32 x5) (s0 : Int) (hs0 : R32 s0) (s1 : Nat) (hs1 : xOb 12 s1) (M : xM) (hM : xcan M) : Gv l G uX12_open 3 0 0 0 139 [some (.ref x0), some (iv x1), some (iv x2), some (iv x3), some (iv x4), some (iv x5), none, none, none, none] [iv s0, .ref s1] M (fX12_open_139 x0 x1 x2 x3 x4 x5 s0 s1 M) := by
  unfold fX12_open_139
  refine xg_callV_Z (kc := 0) (ks := 0) (st := []) (mX12_holds hl s1 hs1 s0 hs0 M hM) bX12_holds xcl12 hs1 rfl xq_187 rfl (by decide) rfl (by decide) dX12_open_139 (Eq.refl 142) rfl (by decide) (by decide) ?_
  intro z1 M2 hz1 hM2
  refine xg_if_eq (tgt := 147) dX12_open_142 (Eq.refl 145) (by decide) (B01.r hz1) ?_ ?_
  · refine xg_aload_n dX12_open_147 (Eq.refl 148) rfl ?_
    refine xg_getR (k := 0) xcl12 h0 rfl xq_122 rfl (xt_12_0 h0).1 dX12_open_148 (Eq.refl 151) ?_
    refine xg_sipush dX12_open_151 (Eq.refl 154) (by decide +kernel) ?_
    refine xg_laldk (k := 1540) (xt_12_0 h0).2 dX12_open_154 (Eq.refl 155) rfl (by decide) ?_
    refine xg_l2i dX12_open_155 (Eq.refl 156) ?_
    refine xg_istoreL (P := R32) (ls2 := fun y3 => [some (.ref x0), some (iv x1), some (iv x2), some (iv x3), some (iv x4), some (iv x5), none, none, none, some (iv y3)]) dX12_open_156 (Eq.refl 158) (by decide) (w32_r _) (fun _ => rfl) ?_
    intro y3 hy3
    refine xg_aload_n dX12_open_158 (Eq.refl 159) rfl ?_
    refine xg_getR (k := 0) xcl12 h0 rfl xq_122 rfl (xt_12_0 h0).1 dX12_open_159 (Eq.refl 162) ?_
    refine xg_iload dX12_open_162 (Eq.refl 164) rfl ?_
    refine xg_iload_n dX12_open_164 (Eq.refl 165) rfl ?_
    refine xg_i2l dX12_open_165 (Eq.refl 166) h1 ?_
    refine xg_last (xt_12_0 h0).2 dX12_open_166 (Eq.refl 167) hM2 (R32.j h1) ?_
    intro M4 hM4
    refine xg_aload_n dX12_open_167 (Eq.refl 168) rfl ?_
    refine xg_getR (k := 0) xcl12 h0 rfl xq_122 rfl (xt_12_0 h0).1 dX12_open_168 (Eq.refl 171) ?_
    refine xg_bipush dX12_open_171 (Eq.refl 173) (by decide +kernel) ?_
    refine xg_iload dX12_open_173 (Eq.refl 175) rfl ?_
    refine xg_iadd dX12_open_175 (Eq.refl 176) ?_
    refine xg_iload_n dX12_open_176 (Eq.refl 177) rfl ?_
    refine xg_if_eq (tgt := 188) dX12_open_177 (Eq.refl 180) (by decide) (B01.r h2) ?_ ?_
    · exact xg_jump (gX12_open_188 hl x0 h0 x3 h3 x4 h4 x5 h5 y3 hy3 (w32 (10 + y3)) (w32_r _) (xr x0 0) (xt_12_0 h0).2 M4 hM4) (xsb_s (xsb_n (xsb_n (xsb_s (xsb_s (xsb_s (xsb_n (xsb_n (xsb_n (xsb_s xsb_0)))))))))) (by decide) (by decide)
    · refine xg_iload_n dX12_open_180 (Eq.refl 181) rfl ?_
      refine xg_if_lt (tgt := 188) dX12_open_181 (Eq.refl 184) (by decide) h1 ?_ ?_
      · exact xg_jump (gX12_open_188 hl x0 h0 x3 h3 x4 h4 x5 h5 y3 hy3 (w32 (10 + y3)) (w32_r _) (xr x0 0) (xt_12_0 h0).2 M4 hM4) (xsb_s (xsb_n (xsb_n (xsb_s (xsb_s (xsb_s (xsb_n (xsb_n (xsb_n (xsb_s xsb_0)))))))))) (by decide) (by decide)
      · refine xg_lconst (z := 1) dX12_open_184 (Eq.refl 185) rfl ?_
        refine xg_goto (tgt := 189) dX12_open_185 (by decide) ?_
        exact xg_jump (gX12_open_189 hl x0 h0 x3 h3 x4 h4 x5 h5 y3 hy3 1 (by decide) (w32 (10 + y3)) (w32_r _) (xr x0 0) (xt_12_0 h0).2 M4 hM4) (xsb_s (xsb_n (xsb_n (xsb_s (xsb_s (xsb_s (xsb_n (xsb_n (xsb_n (xsb_s xsb_0)))))))))) (by decide) (by decide)
  · refine xg_iconst dX12_open_145 (Eq.refl 146) ?_
    exact xg_iret rfl dX12_open_146 rfl hM2 (by decide)
theorem gX12_open_108 {l : Launch} {G : xG} (hl : l.stackTraces = false) (x0 : Nat) (h0 : xOb 12 x0) (x1 : Int) (h1 : R32 x1) (x2 : Int) (h2 : B01 x2) (x3 : Int) (h3 : R32 x3) (x4 : Int) (h4 : R32 x4) (x5 : Int) (h5 : R32 x5) (x6 : Int) (h6 : B01 x6) (x7 : Int) (h7 : B01 x7) (s0 : Int) (hs0 : B01 s0) (M : xM) (hM : xcan M) : Gv l G uX12_open 3 0 0 0 108 [some (.ref x0), some (iv x1), some (iv x2), some (iv x3), some (iv x4), some (iv x5), some (iv x6), some (iv x7), none, none] [iv s0] M (fX12_open_108 x0 x1 x2 x3 x4 x5 x6 x7 s0 M) := by
  unfold fX12_open_108
  refine xg_istore (ls2 := [some (.ref x0), some (iv x1), some (iv x2), some (iv x3), some (iv x4), some (iv x5), some (iv x6), some (iv x7), some (iv s0), none]) dX12_open_108 (Eq.refl 110) (by decide) rfl ?_
  refine xg_aload_n dX12_open_110 (Eq.refl 111) rfl ?_
  refine xg_iload dX12_open_111 (Eq.refl 113) rfl ?_
  refine xg_if_ne (tgt := 120) dX12_open_113 (Eq.refl 116) (by decide) (B01.r h7) ?_ ?_
  · refine xg_iconst dX12_open_116 (Eq.refl 117) ?_
    refine xg_goto (tgt := 139) dX12_open_117 (by decide) ?_
    exact xg_jump (gX12_open_139 hl x0 h0 x1 h1 x2 h2 x3 h3 x4 h4 x5 h5 1 (by decide) x0 h0 M hM) (xsb_s (xsb_s (xsb_s (xsb_s (xsb_s (xsb_s (xsb_n (xsb_n (xsb_n (xsb_n xsb_0)))))))))) (by decide) (by decide)
  · refine xg_iload dX12_open_120 (Eq.refl 122) rfl ?_
    refine xg_if_ne (tgt := 129) dX12_open_122 (Eq.refl 125) (by decide) (B01.r h6) ?_ ?_
    · refine xg_iconst dX12_open_125 (Eq.refl 126) ?_
      refine xg_goto (tgt := 139) dX12_open_126 (by decide) ?_
      exact xg_jump (gX12_open_139 hl x0 h0 x1 h1 x2 h2 x3 h3 x4 h4 x5 h5 2 (by decide) x0 h0 M hM) (xsb_s (xsb_s (xsb_s (xsb_s (xsb_s (xsb_s (xsb_n (xsb_n (xsb_n (xsb_n xsb_0)))))))))) (by decide) (by decide)
    · refine xg_iload dX12_open_129 (Eq.refl 131) rfl ?_
      refine xg_if_eq (tgt := 138) dX12_open_131 (Eq.refl 134) (by decide) (B01.r hs0) ?_ ?_
      · refine xg_iconst dX12_open_138 (Eq.refl 139) ?_
        exact xg_jump (gX12_open_139 hl x0 h0 x1 h1 x2 h2 x3 h3 x4 h4 x5 h5 0 (by decide) x0 h0 M hM) (xsb_s (xsb_s (xsb_s (xsb_s (xsb_s (xsb_s (xsb_n (xsb_n (xsb_n (xsb_n xsb_0)))))))))) (by decide) (by decide)
      · refine xg_iconst dX12_open_134 (Eq.refl 135) ?_
        refine xg_goto (tgt := 139) dX12_open_135 (by decide) ?_
        exact xg_jump (gX12_open_139 hl x0 h0 x1 h1 x2 h2 x3 h3 x4 h4 x5 h5 3 (by decide) x0 h0 M hM) (xsb_s (xsb_s (xsb_s (xsb_s (xsb_s (xsb_s (xsb_n (xsb_n (xsb_n (xsb_n xsb_0)))))))))) (by decide) (by decide)
theorem gX12_open_103 {l : Launch} {G : xG} (hl : l.stackTraces = false) (x0 : Nat) (h0 : xOb 12 x0) (x1 : Int) (h1 : R32 x1) (x2 : Int) (h2 : B01 x2) (x3 : Int) (h3 : R32 x3) (x4 : Int) (h4 : R32 x4) (x5 : Int) (h5 : R32 x5) (x6 : Int) (h6 : B01 x6) (x7 : Int) (h7 : B01 x7) (M : xM) (hM : xcan M) : Gv l G uX12_open 3 0 0 0 103 [some (.ref x0), some (iv x1), some (iv x2), some (iv x3), some (iv x4), some (iv x5), some (iv x6), some (iv x7), none, none] [] M (fX12_open_103 x0 x1 x2 x3 x4 x5 x6 x7 M) := by
  unfold fX12_open_103
  refine xg_iconst dX12_open_103 (Eq.refl 104) ?_
  refine xg_goto (tgt := 108) dX12_open_104 (by decide) ?_
  exact xg_jump (gX12_open_108 hl x0 h0 x1 h1 x2 h2 x3 h3 x4 h4 x5 h5 x6 h6 x7 h7 1 (by decide) M hM) (xsb_s (xsb_s (xsb_s (xsb_s (xsb_s (xsb_s (xsb_s (xsb_s (xsb_n (xsb_n xsb_0)))))))))) (by decide) (by decide)
theorem gX12_open_88 {l : Launch} {G : xG} (hl : l.stackTraces = false) (x0 : Nat) (h0 : xOb 12 x0) (x1 : Int) (h1 : R32 x1) (x2 : Int) (h2 : B01 x2) (x3 : Int) (h3 : R32 x3) (x4 : Int) (h4 : R32 x4) (x5 : Int) (h5 : R32 x5) (x6 : Int) (h6 : B01 x6) (x7 : Int) (h7 : B01 x7) (M : xM) (hM : xcan M) : Gv l G uX12_open 3 0 0 0 88 [some (.ref x0), some (iv x1), some (iv x2), some (iv x3), some (iv x4), some (iv x5), some (iv x6), some (iv x7), none, none] [] M (fX12_open_88 x0 x1 x2 x3 x4 x5 x6 x7 M) := by
  unfold fX12_open_88
  refine xg_aload_n dX12_open_88 (Eq.refl 89) rfl ?_
  refine xg_getR (k := 0) xcl12 h0 rfl xq_122 rfl (xt_12_0 h0).1 dX12_open_89 (Eq.refl 92) ?_
  refine xg_sipush dX12_open_92 (Eq.refl 95) (by decide +kernel) ?_
  refine xg_laldk (k := 1540) (xt_12_0 h0).2 dX12_open_95 (Eq.refl 96) rfl (by decide) ?_
  refine xg_ldc2 (z := 10) xq_178 dX12_open_96 (Eq.refl 99) (by decide +kernel) ?_
  refine xg_lif_ne (tgt := 107) dX12_open_99 (Eq.refl 100) dX12_open_100 (Eq.refl 103) (by decide) (hM.aj (xt_12_0 h0).2) (by decide) ?_ ?_
  · exact xg_jump (gX12_open_103 hl x0 h0 x1 h1 x2 h2 x3 h3 x4 h4 x5 h5 x6 h6 x7 h7 M hM) (xsb_s (xsb_s (xsb_s (xsb_s (xsb_s (xsb_s (xsb_s (xsb_s (xsb_n (xsb_n xsb_0)))))))))) (by decide) (by decide)
  · refine xg_iconst dX12_open_107 (Eq.refl 108) ?_
    exact xg_jump (gX12_open_108 hl x0 h0 x1 h1 x2 h2 x3 h3 x4 h4 x5 h5 x6 h6 x7 h7 0 (by decide) M hM) (xsb_s (xsb_s (xsb_s (xsb_s (xsb_s (xsb_s (xsb_s (xsb_s (xsb_n (xsb_n xsb_0)))))))))) (by decide) (by decide)
theorem gX12_open_66 {l : Launch} {G : xG} (hl : l.stackTraces = false) (x0 : Nat) (h0 : xOb 12 x0) (x1 : Int) (h1 : R32 x1) (x2 : Int) (h2 : B01 x2) (x3 : Int) (h3 : R32 x3) (x4 : Int) (h4 : R32 x4) (x5 : Int) (h5 : R32 x5) (x6 : Int) (h6 : B01 x6) (s0 : Int) (hs0 : B01 s0) (M : xM) (hM : xcan M) : Gv l G uX12_open 3 0 0 0 66 [some (.ref x0), some (iv x1), some (iv x2), some (iv x3), some (iv x4), some (iv x5), some (iv x6), none, none, none] [iv s0] M (fX12_open_66 x0 x1 x2 x3 x4 x5 x6 s0 M) := by
  unfold fX12_open_66
  refine xg_istore (ls2 := [some (.ref x0), some (iv x1), some (iv x2), some (iv x3), some (iv x4), some (iv x5), some (iv x6), some (iv s0), none, none]) dX12_open_66 (Eq.refl 68) (by decide) rfl ?_
  refine xg_iload dX12_open_68 (Eq.refl 70) rfl ?_
  refine xg_if_eq (tgt := 88) dX12_open_70 (Eq.refl 73) (by decide) (B01.r hs0) ?_ ?_
  · exact xg_jump (gX12_open_88 hl x0 h0 x1 h1 x2 h2 x3 h3 x4 h4 x5 h5 x6 h6 s0 hs0 M hM) (xsb_s (xsb_s (xsb_s (xsb_s (xsb_s (xsb_s (xsb_s (xsb_s (xsb_n (xsb_n xsb_0)))))))))) (by decide) (by decide)
  · refine xg_iload_n dX12_open_73 (Eq.refl 74) rfl ?_
    refine xg_if_lt (tgt := 88) dX12_open_74 (Eq.refl 77) (by decide) h1 ?_ ?_
    · exact xg_jump (gX12_open_88 hl x0 h0 x1 h1 x2 h2 x3 h3 x4 h4 x5 h5 x6 h6 s0 hs0 M hM) (xsb_s (xsb_s (xsb_s (xsb_s (xsb_s (xsb_s (xsb_s (xsb_s (xsb_n (xsb_n xsb_0)))))))))) (by decide) (by decide)
    · refine xg_aload_n dX12_open_77 (Eq.refl 78) rfl ?_
      refine xg_getR (k := 0) xcl12 h0 rfl xq_122 rfl (xt_12_0 h0).1 dX12_open_78 (Eq.refl 81) ?_
      refine xg_iload_n dX12_open_81 (Eq.refl 82) rfl ?_
      refine xg_lald (xt_12_0 h0).2 dX12_open_82 (Eq.refl 83) ?_
      refine xg_lconst (z := 0) dX12_open_83 (Eq.refl 84) rfl ?_
      refine xg_lif_ge (tgt := 103) dX12_open_84 (Eq.refl 85) dX12_open_85 (Eq.refl 88) (by decide) (hM.aj (xt_12_0 h0).2) (by decide) ?_ ?_
      · exact xg_jump (gX12_open_103 hl x0 h0 x1 h1 x2 h2 x3 h3 x4 h4 x5 h5 x6 h6 s0 hs0 M hM) (xsb_s (xsb_s (xsb_s (xsb_s (xsb_s (xsb_s (xsb_s (xsb_s (xsb_n (xsb_n xsb_0)))))))))) (by decide) (by decide)
      · exact xg_jump (gX12_open_88 hl x0 h0 x1 h1 x2 h2 x3 h3 x4 h4 x5 h5 x6 h6 s0 hs0 M hM) (xsb_s (xsb_s (xsb_s (xsb_s (xsb_s (xsb_s (xsb_s (xsb_s (xsb_n (xsb_n xsb_0)))))))))) (by decide) (by decide)
theorem gX12_open_61 {l : Launch} {G : xG} (hl : l.stackTraces = false) (x0 : Nat) (h0 : xOb 12 x0) (x1 : Int) (h1 : R32 x1) (x2 : Int) (h2 : B01 x2) (x3 : Int) (h3 : R32 x3) (x4 : Int) (h4 : R32 x4) (x5 : Int) (h5 : R32 x5) (x6 : Int) (h6 : B01 x6) (M : xM) (hM : xcan M) : Gv l G uX12_open 3 0 0 0 61 [some (.ref x0), some (iv x1), some (iv x2), some (iv x3), some (iv x4), some (iv x5), some (iv x6), none, none, none] [] M (fX12_open_61 x0 x1 x2 x3 x4 x5 x6 M) := by
  unfold fX12_open_61
  refine xg_iconst dX12_open_61 (Eq.refl 62) ?_
  refine xg_goto (tgt := 66) dX12_open_62 (by decide) ?_
  exact xg_jump (gX12_open_66 hl x0 h0 x1 h1 x2 h2 x3 h3 x4 h4 x5 h5 x6 h6 1 (by decide) M hM) (xsb_s (xsb_s (xsb_s (xsb_s (xsb_s (xsb_s (xsb_s (xsb_n (xsb_n (xsb_n xsb_0)))))))))) (by decide) (by decide)
theorem gX12_open_46 {l : Launch} {G : xG} (hl : l.stackTraces = false) (x0 : Nat) (h0 : xOb 12 x0) (x1 : Int) (h1 : R32 x1) (x2 : Int) (h2 : B01 x2) (x3 : Int) (h3 : R32 x3) (x4 : Int) (h4 : R32 x4) (x5 : Int) (h5 : R32 x5) (s0 : Int) (hs0 : B01 s0) (M : xM) (hM : xcan M) : Gv l G uX12_open 3 0 0 0 46 [some (.ref x0), some (iv x1), some (iv x2), some (iv x3), some (iv x4), some (iv x5), none, none, none, none] [iv s0] M (fX12_open_46 x0 x1 x2 x3 x4 x5 s0 M) := by
  unfold fX12_open_46
  refine xg_istore (ls2 := [some (.ref x0), some (iv x1), some (iv x2), some (iv x3), some (iv x4), some (iv x5), some (iv s0), none, none, none]) dX12_open_46 (Eq.refl 48) (by decide) rfl ?_
  refine xg_iload_n dX12_open_48 (Eq.refl 49) rfl ?_
  refine xg_iconst dX12_open_49 (Eq.refl 50) ?_
  refine xg_icmp_eq (tgt := 61) dX12_open_50 (Eq.refl 53) (by decide) h1 (by decide) ?_ ?_
  · exact xg_jump (gX12_open_61 hl x0 h0 x1 h1 x2 h2 x3 h3 x4 h4 x5 h5 s0 hs0 M hM) (xsb_s (xsb_s (xsb_s (xsb_s (xsb_s (xsb_s (xsb_s (xsb_n (xsb_n (xsb_n xsb_0)))))))))) (by decide) (by decide)
  · refine xg_aload_n dX12_open_53 (Eq.refl 54) rfl ?_
    refine xg_iload_n dX12_open_54 (Eq.refl 55) rfl ?_
    refine xg_callV_Z (kc := 0) (ks := 0) (st := []) (mX12_isAccount hl x0 h0 x1 h1 M hM) bX12_isAccount xcl12 h0 rfl xq_183 rfl (by decide) rfl (by decide) dX12_open_55 (Eq.refl 58) rfl (by decide) (by decide) ?_
    intro z1 M2 hz1 hM2
    refine xg_if_eq (tgt := 65) dX12_open_58 (Eq.refl 61) (by decide) (B01.r hz1) ?_ ?_
    · refine xg_iconst dX12_open_65 (Eq.refl 66) ?_
      exact xg_jump (gX12_open_66 hl x0 h0 x1 h1 x2 h2 x3 h3 x4 h4 x5 h5 s0 hs0 0 (by decide) M2 hM2) (xsb_s (xsb_s (xsb_s (xsb_s (xsb_s (xsb_s (xsb_s (xsb_n (xsb_n (xsb_n xsb_0)))))))))) (by decide) (by decide)
    · exact xg_jump (gX12_open_61 hl x0 h0 x1 h1 x2 h2 x3 h3 x4 h4 x5 h5 s0 hs0 M2 hM2) (xsb_s (xsb_s (xsb_s (xsb_s (xsb_s (xsb_s (xsb_s (xsb_n (xsb_n (xsb_n xsb_0)))))))))) (by decide) (by decide)
theorem gX12_open_45 {l : Launch} {G : xG} (hl : l.stackTraces = false) (x0 : Nat) (h0 : xOb 12 x0) (x1 : Int) (h1 : R32 x1) (x2 : Int) (h2 : B01 x2) (x3 : Int) (h3 : R32 x3) (x4 : Int) (h4 : R32 x4) (x5 : Int) (h5 : R32 x5) (M : xM) (hM : xcan M) : Gv l G uX12_open 3 0 0 0 45 [some (.ref x0), some (iv x1), some (iv x2), some (iv x3), some (iv x4), some (iv x5), none, none, none, none] [] M (fX12_open_45 x0 x1 x2 x3 x4 x5 M) := by
  unfold fX12_open_45
  refine xg_iconst dX12_open_45 (Eq.refl 46) ?_
  exact xg_jump (gX12_open_46 hl x0 h0 x1 h1 x2 h2 x3 h3 x4 h4 x5 h5 0 (by decide) M hM) (xsb_s (xsb_s (xsb_s (xsb_s (xsb_s (xsb_s (xsb_n (xsb_n (xsb_n (xsb_n xsb_0)))))))))) (by decide) (by decide)
theorem mX12_open {l : Launch} {G : xG} (hl : l.stackTraces = false) (x0 : Nat) (h0 : xOb 12 x0) (x1 : Int) (h1 : R32 x1) (x2 : Int) (h2 : B01 x2) (x3 : Int) (h3 : R32 x3) (x4 : Int) (h4 : R32 x4) (x5 : Int) (h5 : R32 x5) (M : xM) (hM : xcan M) : Cm l G yX12_open cX12_open 10 (some .int) 3 0 0 0 [.ref x0, iv x1, iv x2, iv x3, iv x4, iv x5] M (fX12_open x0 x1 x2 x3 x4 x5 M) := by
  refine xcm_of (u := uX12_open) (ls := [some (.ref x0), some (iv x1), some (iv x2), some (iv x3), some (iv x4), some (iv x5), none, none, none, none]) 4 hl rfl (by decide +kernel) (Nat.le_of_ble_eq_true rfl) rfl ?_
  unfold fX12_open
  refine xg_aload_n dX12_open_0 (Eq.refl 1) rfl ?_
  refine xg_iload_n dX12_open_1 (Eq.refl 2) rfl ?_
  refine xg_i2l dX12_open_2 (Eq.refl 3) h3 ?_
  refine xg_lconst (z := 0) dX12_open_3 (Eq.refl 4) rfl ?_
  refine xg_ldc2 (z := 2) xq_176 dX12_open_4 (Eq.refl 7) (by decide +kernel) ?_
  refine xg_callV_Z (kc := 0) (ks := 0) (st := []) (mX12_in hl x0 h0 x3 (R32.j h3) 0 (by decide) 2 (by decide) M hM) bX12_in xcl12 h0 rfl xq_179 rfl (by decide) rfl (by decide) dX12_open_7 (Eq.refl 10) rfl (by decide) (by decide) ?_
  intro z1 M2 hz1 hM2
  refine xg_if_eq (tgt := 45) dX12_open_10 (Eq.refl 13) (by decide) (B01.r hz1) ?_ ?_
  · exact xg_jump (gX12_open_45 hl x0 h0 x1 h1 x2 h2 x3 h3 x4 h4 x5 h5 M2 hM2) (xsb_s (xsb_s (xsb_s (xsb_s (xsb_s (xsb_s (xsb_n (xsb_n (xsb_n (xsb_n xsb_0)))))))))) (by decide) (by decide)
  · refine xg_aload_n dX12_open_13 (Eq.refl 14) rfl ?_
    refine xg_iload dX12_open_14 (Eq.refl 16) rfl ?_
    refine xg_i2l dX12_open_16 (Eq.refl 17) h4 ?_
    refine xg_lconst (z := 0) dX12_open_17 (Eq.refl 18) rfl ?_
    refine xg_ldc2 (z := 1000000) xq_177 dX12_open_18 (Eq.refl 21) (by decide +kernel) ?_
    refine xg_callV_Z (kc := 0) (ks := 0) (st := []) (mX12_in hl x0 h0 x4 (R32.j h4) 0 (by decide) 1000000 (by decide) M2 hM2) bX12_in xcl12 h0 rfl xq_179 rfl (by decide) rfl (by decide) dX12_open_21 (Eq.refl 24) rfl (by decide) (by decide) ?_
    intro z3 M4 hz3 hM4
    refine xg_if_eq (tgt := 45) dX12_open_24 (Eq.refl 27) (by decide) (B01.r hz3) ?_ ?_
    · exact xg_jump (gX12_open_45 hl x0 h0 x1 h1 x2 h2 x3 h3 x4 h4 x5 h5 M4 hM4) (xsb_s (xsb_s (xsb_s (xsb_s (xsb_s (xsb_s (xsb_n (xsb_n (xsb_n (xsb_n xsb_0)))))))))) (by decide) (by decide)
    · refine xg_aload_n dX12_open_27 (Eq.refl 28) rfl ?_
      refine xg_iload dX12_open_28 (Eq.refl 30) rfl ?_
      refine xg_i2l dX12_open_30 (Eq.refl 31) h5 ?_
      refine xg_lconst (z := 0) dX12_open_31 (Eq.refl 32) rfl ?_
      refine xg_ldc2 (z := 1000000) xq_177 dX12_open_32 (Eq.refl 35) (by decide +kernel) ?_
      refine xg_callV_Z (kc := 0) (ks := 0) (st := []) (mX12_in hl x0 h0 x5 (R32.j h5) 0 (by decide) 1000000 (by decide) M4 hM4) bX12_in xcl12 h0 rfl xq_179 rfl (by decide) rfl (by decide) dX12_open_35 (Eq.refl 38) rfl (by decide) (by decide) ?_
      intro z5 M6 hz5 hM6
      refine xg_if_eq (tgt := 45) dX12_open_38 (Eq.refl 41) (by decide) (B01.r hz5) ?_ ?_
      · exact xg_jump (gX12_open_45 hl x0 h0 x1 h1 x2 h2 x3 h3 x4 h4 x5 h5 M6 hM6) (xsb_s (xsb_s (xsb_s (xsb_s (xsb_s (xsb_s (xsb_n (xsb_n (xsb_n (xsb_n xsb_0)))))))))) (by decide) (by decide)
      · refine xg_iconst dX12_open_41 (Eq.refl 42) ?_
        refine xg_goto (tgt := 46) dX12_open_42 (by decide) ?_
        exact xg_jump (gX12_open_46 hl x0 h0 x1 h1 x2 h2 x3 h3 x4 h4 x5 h5 1 (by decide) M6 hM6) (xsb_s (xsb_s (xsb_s (xsb_s (xsb_s (xsb_s (xsb_n (xsb_n (xsb_n (xsb_n xsb_0)))))))))) (by decide) (by decide)
abbrev uX12_flips : xU := (RX12, cX12_flips, 3, (some .boolean), [], "flips")
theorem bX12_flips : xYV yX12_flips cX12_flips 3 (some .boolean) 2 := ⟨xq_209, xq_210, xq_5, xq_211, ⟨by decide +kernel, by decide +kernel, by decide +kernel⟩, by decide⟩
theorem gX12_flips_10 {l : Launch} {G : xG} (hl : l.stackTraces = false) (x0 : Nat) (h0 : xOb 12 x0) (x1 : Int) (h1 : R32 x1) (s0 : Int) (hs0 : B01 s0) (s1 : Nat) (hs1 : xOb 12 s1) (M : xM) (hM : xcan M) : Gv l G uX12_flips 2 1 0 0 10 [some (.ref x0), some (iv x1), none] [iv s0, .ref s1] M (fX12_flips_10 x0 x1 s0 s1 M) := by
  unfold fX12_flips_10
  refine xg_callV_Z (kc := 0) (ks := 0) (st := []) (mX12_holds hl s1 hs1 s0 (B01.r hs0) M hM) bX12_holds xcl12 hs1 rfl xq_187 rfl (by decide) rfl (by decide) dX12_flips_10 (Eq.refl 13) rfl (by decide) (by decide) ?_
  intro z1 M2 hz1 hM2
  refine xg_if_eq (tgt := 18) dX12_flips_13 (Eq.refl 16) (by decide) (B01.r hz1) ?_ ?_
  · refine xg_aload_n dX12_flips_18 (Eq.refl 19) rfl ?_
    refine xg_getR (k := 0) xcl12 h0 rfl xq_122 rfl (xt_12_0 h0).1 dX12_flips_19 (Eq.refl 22) ?_
    refine xg_iload_n dX12_flips_22 (Eq.refl 23) rfl ?_
    refine xg_lconst (z := 1) dX12_flips_23 (Eq.refl 24) rfl ?_
    refine xg_aload_n dX12_flips_24 (Eq.refl 25) rfl ?_
    refine xg_getR (k := 0) xcl12 h0 rfl xq_122 rfl (xt_12_0 h0).1 dX12_flips_25 (Eq.refl 28) ?_
    refine xg_iload_n dX12_flips_28 (Eq.refl 29) rfl ?_
    refine xg_lald (xt_12_0 h0).2 dX12_flips_29 (Eq.refl 30) ?_
    refine xg_lsub dX12_flips_30 (Eq.refl 31) ?_
    refine xg_last (xt_12_0 h0).2 dX12_flips_31 (Eq.refl 32) hM2 (w64_r _) ?_
    intro M3 hM3
    refine xg_aload_n dX12_flips_32 (Eq.refl 33) rfl ?_
    refine xg_getR (k := 0) xcl12 h0 rfl xq_122 rfl (xt_12_0 h0).1 dX12_flips_33 (Eq.refl 36) ?_
    refine xg_iload_n dX12_flips_36 (Eq.refl 37) rfl ?_
    refine xg_lald (xt_12_0 h0).2 dX12_flips_37 (Eq.refl 38) ?_
    refine xg_lconst (z := 1) dX12_flips_38 (Eq.refl 39) rfl ?_
    refine xg_lif_ne (tgt := 47) dX12_flips_39 (Eq.refl 40) dX12_flips_40 (Eq.refl 43) (by decide) (hM3.aj (xt_12_0 h0).2) (by decide) ?_ ?_
    · refine xg_iconst dX12_flips_43 (Eq.refl 44) ?_
      refine xg_goto (tgt := 48) dX12_flips_44 (by decide) ?_
      exact xg_zret rfl dX12_flips_48 rfl hM3 (by decide)
    · refine xg_iconst dX12_flips_47 (Eq.refl 48) ?_
      exact xg_zret rfl dX12_flips_48 rfl hM3 (by decide)
  · refine xg_iconst dX12_flips_16 (Eq.refl 17) ?_
    exact xg_zret rfl dX12_flips_17 rfl hM2 (by decide)
theorem mX12_flips {l : Launch} {G : xG} (hl : l.stackTraces = false) (x0 : Nat) (h0 : xOb 12 x0) (x1 : Int) (h1 : R32 x1) (x2 : Int) (h2 : B01 x2) (M : xM) (hM : xcan M) : Cm l G yX12_flips cX12_flips 3 (some .boolean) 2 1 0 0 [.ref x0, iv x1, iv x2] M (fX12_flips x0 x1 x2 M) := by
  refine xcm_of (u := uX12_flips) (ls := [some (.ref x0), some (iv x1), some (iv x2)]) 0 hl rfl (by decide +kernel) (Nat.le_of_ble_eq_true rfl) rfl ?_
  unfold fX12_flips
  refine xg_aload_n dX12_flips_0 (Eq.refl 1) rfl ?_
  refine xg_iload_n dX12_flips_1 (Eq.refl 2) rfl ?_
  refine xg_if_eq (tgt := 9) dX12_flips_2 (Eq.refl 5) (by decide) (B01.r h2) ?_ ?_
  · refine xg_iconst dX12_flips_9 (Eq.refl 10) ?_
    exact xg_jump (gX12_flips_10 hl x0 h0 x1 h1 1 (by decide) x0 h0 M hM) (xsb_s (xsb_s (xsb_n xsb_0))) (by decide) (by decide)
  · refine xg_iconst dX12_flips_5 (Eq.refl 6) ?_
    refine xg_goto (tgt := 10) dX12_flips_6 (by decide) ?_
    exact xg_jump (gX12_flips_10 hl x0 h0 x1 h1 0 (by decide) x0 h0 M hM) (xsb_s (xsb_s (xsb_n xsb_0))) (by decide) (by decide)
abbrev uX12_lend : xU := (RX12, cX12_lend, 2, (some .boolean), [], "lend")
theorem bX12_lend : xYV yX12_lend cX12_lend 2 (some .boolean) 1 := ⟨xq_205, xq_206, xq_5, xq_207, ⟨by decide +kernel, by decide +kernel, by decide +kernel⟩, by decide⟩
theorem gX12_lend_16 {l : Launch} {G : xG} (hl : l.stackTraces = false) (x0 : Nat) (h0 : xOb 12 x0) (x1 : Int) (h1 : R32 x1) (s0 : Int) (hs0 : R32 s0) (s1 : Int) (hs1 : R32 s1) (s2 : Nat) (hs2 : xOb 12 s2) (M : xM) (hM : xcan M) : Gv l G uX12_lend 3 1 0 0 16 [some (.ref x0), some (iv x1)] [iv s0, iv s1, .ref s2] M (fX12_lend_16 x0 x1 s0 s1 s2 M) := by
  unfold fX12_lend_16
  refine xg_iadd dX12_lend_16 (Eq.refl 17) ?_
  refine xg_aload_n dX12_lend_17 (Eq.refl 18) rfl ?_
  refine xg_iload_n dX12_lend_18 (Eq.refl 19) rfl ?_
  refine xg_callV_Z (kc := 0) (ks := 0) (st := [iv (w32 (s1 + s0)), .ref s2]) (mX12_isAccount hl x0 h0 x1 h1 M hM) bX12_isAccount xcl12 h0 rfl xq_183 rfl (by decide) rfl (Nat.le_of_ble_eq_true rfl) dX12_lend_19 (Eq.refl 22) rfl (by decide) (by decide) ?_
  intro z1 M2 hz1 hM2
  refine xg_callV_Z (kc := 0) (ks := 0) (st := []) (mX12_flips hl s2 hs2 (w32 (s1 + s0)) (w32_r _) z1 hz1 M2 hM2) bX12_flips xcl12 hs2 rfl xq_208 rfl (by decide) rfl (by decide) dX12_lend_22 (Eq.refl 25) rfl (by decide) (by decide) ?_
  intro z3 M4 hz3 hM4
  exact xg_zret rfl dX12_lend_25 rfl hM4 hz3
theorem mX12_lend {l : Launch} {G : xG} (hl : l.stackTraces = false) (x0 : Nat) (h0 : xOb 12 x0) (x1 : Int) (h1 : R32 x1) (M : xM) (hM : xcan M) : Cm l G yX12_lend cX12_lend 2 (some .boolean) 3 1 0 0 [.ref x0, iv x1] M (fX12_lend x0 x1 M) := by
  refine xcm_of (u := uX12_lend) (ls := [some (.ref x0), some (iv x1)]) 0 hl rfl (by decide +kernel) (Nat.le_of_ble_eq_true rfl) rfl ?_
  unfold fX12_lend
  refine xg_aload_n dX12_lend_0 (Eq.refl 1) rfl ?_
  refine xg_bipush dX12_lend_1 (Eq.refl 3) (by decide +kernel) ?_
  refine xg_aload_n dX12_lend_3 (Eq.refl 4) rfl ?_
  refine xg_iload_n dX12_lend_4 (Eq.refl 5) rfl ?_
  refine xg_callV_Z (kc := 0) (ks := 0) (st := [iv 60, .ref x0]) (mX12_isAccount hl x0 h0 x1 h1 M hM) bX12_isAccount xcl12 h0 rfl xq_183 rfl (by decide) rfl (Nat.le_of_ble_eq_true rfl) dX12_lend_5 (Eq.refl 8) rfl (by decide) (by decide) ?_
  intro z1 M2 hz1 hM2
  refine xg_if_eq (tgt := 15) dX12_lend_8 (Eq.refl 11) (by decide) (B01.r hz1) ?_ ?_
  · refine xg_iconst dX12_lend_15 (Eq.refl 16) ?_
    exact xg_jump (gX12_lend_16 hl x0 h0 x1 h1 0 (by decide) 60 (by decide) x0 h0 M2 hM2) (xsb_s (xsb_s xsb_0)) (by decide) (by decide)
  · refine xg_iload_n dX12_lend_11 (Eq.refl 12) rfl ?_
    refine xg_goto (tgt := 16) dX12_lend_12 (by decide) ?_
    exact xg_jump (gX12_lend_16 hl x0 h0 x1 h1 x1 h1 60 (by decide) x0 h0 M2 hM2) (xsb_s (xsb_s xsb_0)) (by decide) (by decide)
abbrev uX12_relieve : xU := (RX12, cX12_relieve, 2, (some .boolean), [], "relieve")
theorem bX12_relieve : xYV yX12_relieve cX12_relieve 2 (some .boolean) 1 := ⟨xq_221, xq_222, xq_5, xq_223, ⟨by decide +kernel, by decide +kernel, by decide +kernel⟩, by decide⟩
theorem gX12_relieve_16 {l : Launch} {G : xG} (hl : l.stackTraces = false) (x0 : Nat) (h0 : xOb 12 x0) (x1 : Int) (h1 : R32 x1) (s0 : Int) (hs0 : R32 s0) (s1 : Int) (hs1 : R32 s1) (s2 : Nat) (hs2 : xOb 12 s2) (M : xM) (hM : xcan M) : Gv l G uX12_relieve 3 1 0 0 16 [some (.ref x0), some (iv x1)] [iv s0, iv s1, .ref s2] M (fX12_relieve_16 x0 x1 s0 s1 s2 M) := by
  unfold fX12_relieve_16
  refine xg_iadd dX12_relieve_16 (Eq.refl 17) ?_
  refine xg_aload_n dX12_relieve_17 (Eq.refl 18) rfl ?_
  refine xg_iload_n dX12_relieve_18 (Eq.refl 19) rfl ?_
  refine xg_callV_Z (kc := 0) (ks := 0) (st := [iv (w32 (s1 + s0)), .ref s2]) (mX12_isAccount hl x0 h0 x1 h1 M hM) bX12_isAccount xcl12 h0 rfl xq_183 rfl (by decide) rfl (Nat.le_of_ble_eq_true rfl) dX12_relieve_19 (Eq.refl 22) rfl (by decide) (by decide) ?_
  intro z1 M2 hz1 hM2
  refine xg_callV_Z (kc := 0) (ks := 0) (st := []) (mX12_flips hl s2 hs2 (w32 (s1 + s0)) (w32_r _) z1 hz1 M2 hM2) bX12_flips xcl12 hs2 rfl xq_208 rfl (by decide) rfl (by decide) dX12_relieve_22 (Eq.refl 25) rfl (by decide) (by decide) ?_
  intro z3 M4 hz3 hM4
  exact xg_zret rfl dX12_relieve_25 rfl hM4 hz3
theorem mX12_relieve {l : Launch} {G : xG} (hl : l.stackTraces = false) (x0 : Nat) (h0 : xOb 12 x0) (x1 : Int) (h1 : R32 x1) (M : xM) (hM : xcan M) : Cm l G yX12_relieve cX12_relieve 2 (some .boolean) 3 1 0 0 [.ref x0, iv x1] M (fX12_relieve x0 x1 M) := by
  refine xcm_of (u := uX12_relieve) (ls := [some (.ref x0), some (iv x1)]) 0 hl rfl (by decide +kernel) (Nat.le_of_ble_eq_true rfl) rfl ?_
  unfold fX12_relieve
  refine xg_aload_n dX12_relieve_0 (Eq.refl 1) rfl ?_
  refine xg_bipush dX12_relieve_1 (Eq.refl 3) (by decide +kernel) ?_
  refine xg_aload_n dX12_relieve_3 (Eq.refl 4) rfl ?_
  refine xg_iload_n dX12_relieve_4 (Eq.refl 5) rfl ?_
  refine xg_callV_Z (kc := 0) (ks := 0) (st := [iv 70, .ref x0]) (mX12_isAccount hl x0 h0 x1 h1 M hM) bX12_isAccount xcl12 h0 rfl xq_183 rfl (by decide) rfl (Nat.le_of_ble_eq_true rfl) dX12_relieve_5 (Eq.refl 8) rfl (by decide) (by decide) ?_
  intro z1 M2 hz1 hM2
  refine xg_if_eq (tgt := 15) dX12_relieve_8 (Eq.refl 11) (by decide) (B01.r hz1) ?_ ?_
  · refine xg_iconst dX12_relieve_15 (Eq.refl 16) ?_
    exact xg_jump (gX12_relieve_16 hl x0 h0 x1 h1 0 (by decide) 70 (by decide) x0 h0 M2 hM2) (xsb_s (xsb_s xsb_0)) (by decide) (by decide)
  · refine xg_iload_n dX12_relieve_11 (Eq.refl 12) rfl ?_
    refine xg_goto (tgt := 16) dX12_relieve_12 (by decide) ?_
    exact xg_jump (gX12_relieve_16 hl x0 h0 x1 h1 x1 h1 70 (by decide) x0 h0 M2 hM2) (xsb_s (xsb_s xsb_0)) (by decide) (by decide)
abbrev uX12_treaty : xU := (RX12, cX12_treaty, 5, (some .int), [], "treaty")
theorem bX12_treaty : xYV yX12_treaty cX12_treaty 5 (some .int) 3 := ⟨xq_240, xq_241, xq_5, xq_242, ⟨by decide +kernel, by decide +kernel, by decide +kernel⟩, by decide⟩
theorem gX12_treaty_45 {l : Launch} {G : xG} (hl : l.stackTraces = false) (x0 : Nat) (h0 : xOb 12 x0) (x1 : Int) (h1 : R32 x1) (x2 : Int) (h2 : R32 x2) (x3 : Int) (h3 : R32 x3) (s0 : Int) (hs0 : B01 s0) (s1 : Nat) (hs1 : xOb 12 s1) (M : xM) (hM : xcan M) : Gv l G uX12_treaty 2 0 0 0 45 [some (.ref x0), some (iv x1), some (iv x2), some (iv x3), none] [iv s0, .ref s1] M (fX12_treaty_45 x0 x1 x2 x3 s0 s1 M) := by
  unfold fX12_treaty_45
  refine xg_callV_Z (kc := 0) (ks := 0) (st := []) (mX12_holds hl s1 hs1 s0 (B01.r hs0) M hM) bX12_holds xcl12 hs1 rfl xq_187 rfl (by decide) rfl (by decide) dX12_treaty_45 (Eq.refl 48) rfl (by decide) (by decide) ?_
  intro z1 M2 hz1 hM2
  refine xg_if_eq (tgt := 53) dX12_treaty_48 (Eq.refl 51) (by decide) (B01.r hz1) ?_ ?_
  · refine xg_aload_n dX12_treaty_53 (Eq.refl 54) rfl ?_
    refine xg_getR (k := 0) xcl12 h0 rfl xq_122 rfl (xt_12_0 h0).1 dX12_treaty_54 (Eq.refl 57) ?_
    refine xg_sipush dX12_treaty_57 (Eq.refl 60) (by decide +kernel) ?_
    refine xg_iconst dX12_treaty_60 (Eq.refl 61) ?_
    refine xg_iload_n dX12_treaty_61 (Eq.refl 62) rfl ?_
    refine xg_imul dX12_treaty_62 (Eq.refl 63) ?_
    refine xg_iadd dX12_treaty_63 (Eq.refl 64) ?_
    refine xg_iload_n dX12_treaty_64 (Eq.refl 65) rfl ?_
    refine xg_iadd dX12_treaty_65 (Eq.refl 66) ?_
    refine xg_lald (xt_12_0 h0).2 dX12_treaty_66 (Eq.refl 67) ?_
    refine xg_l2i dX12_treaty_67 (Eq.refl 68) ?_
    refine xg_istoreL (P := R32) (ls2 := fun y3 => [some (.ref x0), some (iv x1), some (iv x2), some (iv x3), some (iv y3)]) dX12_treaty_68 (Eq.refl 70) (by decide) (w32_r _) (fun _ => rfl) ?_
    intro y3 hy3
    refine xg_aload_n dX12_treaty_70 (Eq.refl 71) rfl ?_
    refine xg_getR (k := 0) xcl12 h0 rfl xq_122 rfl (xt_12_0 h0).1 dX12_treaty_71 (Eq.refl 74) ?_
    refine xg_sipush dX12_treaty_74 (Eq.refl 77) (by decide +kernel) ?_
    refine xg_iconst dX12_treaty_77 (Eq.refl 78) ?_
    refine xg_iload_n dX12_treaty_78 (Eq.refl 79) rfl ?_
    refine xg_imul dX12_treaty_79 (Eq.refl 80) ?_
    refine xg_iadd dX12_treaty_80 (Eq.refl 81) ?_
    refine xg_iload_n dX12_treaty_81 (Eq.refl 82) rfl ?_
    refine xg_iadd dX12_treaty_82 (Eq.refl 83) ?_
    refine xg_iload_n dX12_treaty_83 (Eq.refl 84) rfl ?_
    refine xg_i2l dX12_treaty_84 (Eq.refl 85) h3 ?_
    refine xg_last (xt_12_0 h0).2 dX12_treaty_85 (Eq.refl 86) hM2 (R32.j h3) ?_
    intro M4 hM4
    refine xg_iload dX12_treaty_86 (Eq.refl 88) rfl ?_
    exact xg_iret rfl dX12_treaty_88 rfl hM4 hy3
  · refine xg_iconst dX12_treaty_51 (Eq.refl 52) ?_
    exact xg_iret rfl dX12_treaty_52 rfl hM2 (by decide)
theorem gX12_treaty_44 {l : Launch} {G : xG} (hl : l.stackTraces = false) (x0 : Nat) (h0 : xOb 12 x0) (x1 : Int) (h1 : R32 x1) (x2 : Int) (h2 : R32 x2) (x3 : Int) (h3 : R32 x3) (s0 : Nat) (hs0 : xOb 12 s0) (M : xM) (hM : xcan M) : Gv l G uX12_treaty 2 0 0 0 44 [some (.ref x0), some (iv x1), some (iv x2), some (iv x3), none] [.ref s0] M (fX12_treaty_44 x0 x1 x2 x3 s0 M) := by
  unfold fX12_treaty_44
  refine xg_iconst dX12_treaty_44 (Eq.refl 45) ?_
  exact xg_jump (gX12_treaty_45 hl x0 h0 x1 h1 x2 h2 x3 h3 1 (by decide) s0 hs0 M hM) (xsb_s (xsb_s (xsb_s (xsb_s (xsb_n xsb_0))))) (by decide) (by decide)
theorem mX12_treaty {l : Launch} {G : xG} (hl : l.stackTraces = false) (x0 : Nat) (h0 : xOb 12 x0) (x1 : Int) (h1 : R32 x1) (x2 : Int) (h2 : R32 x2) (x3 : Int) (h3 : R32 x3) (M : xM) (hM : xcan M) : Cm l G yX12_treaty cX12_treaty 5 (some .int) 2 0 0 0 [.ref x0, iv x1, iv x2, iv x3] M (fX12_treaty x0 x1 x2 x3 M) := by
  refine xcm_of (u := uX12_treaty) (ls := [some (.ref x0), some (iv x1), some (iv x2), some (iv x3), none]) 1 hl rfl (by decide +kernel) (Nat.le_of_ble_eq_true rfl) rfl ?_
  unfold fX12_treaty
  refine xg_aload_n dX12_treaty_0 (Eq.refl 1) rfl ?_
  refine xg_aload_n dX12_treaty_1 (Eq.refl 2) rfl ?_
  refine xg_iload_n dX12_treaty_2 (Eq.refl 3) rfl ?_
  refine xg_i2l dX12_treaty_3 (Eq.refl 4) h1 ?_
  refine xg_lconst (z := 0) dX12_treaty_4 (Eq.refl 5) rfl ?_
  refine xg_ldc2 (z := 2) xq_176 dX12_treaty_5 (Eq.refl 8) (by decide +kernel) ?_
  refine xg_callV_Z (kc := 0) (ks := 0) (st := [.ref x0]) (mX12_in hl x0 h0 x1 (R32.j h1) 0 (by decide) 2 (by decide) M hM) bX12_in xcl12 h0 rfl xq_179 rfl (by decide) rfl (Nat.le_of_ble_eq_true rfl) dX12_treaty_8 (Eq.refl 11) rfl (by decide) (by decide) ?_
  intro z1 M2 hz1 hM2
  refine xg_if_eq (tgt := 44) dX12_treaty_11 (Eq.refl 14) (by decide) (B01.r hz1) ?_ ?_
  · exact xg_jump (gX12_treaty_44 hl x0 h0 x1 h1 x2 h2 x3 h3 x0 h0 M2 hM2) (xsb_s (xsb_s (xsb_s (xsb_s (xsb_n xsb_0))))) (by decide) (by decide)
  · refine xg_aload_n dX12_treaty_14 (Eq.refl 15) rfl ?_
    refine xg_iload_n dX12_treaty_15 (Eq.refl 16) rfl ?_
    refine xg_i2l dX12_treaty_16 (Eq.refl 17) h2 ?_
    refine xg_lconst (z := 0) dX12_treaty_17 (Eq.refl 18) rfl ?_
    refine xg_ldc2 (z := 2) xq_176 dX12_treaty_18 (Eq.refl 21) (by decide +kernel) ?_
    refine xg_callV_Z (kc := 0) (ks := 0) (st := [.ref x0]) (mX12_in hl x0 h0 x2 (R32.j h2) 0 (by decide) 2 (by decide) M2 hM2) bX12_in xcl12 h0 rfl xq_179 rfl (by decide) rfl (Nat.le_of_ble_eq_true rfl) dX12_treaty_21 (Eq.refl 24) rfl (by decide) (by decide) ?_
    intro z3 M4 hz3 hM4
    refine xg_if_eq (tgt := 44) dX12_treaty_24 (Eq.refl 27) (by decide) (B01.r hz3) ?_ ?_
    · exact xg_jump (gX12_treaty_44 hl x0 h0 x1 h1 x2 h2 x3 h3 x0 h0 M4 hM4) (xsb_s (xsb_s (xsb_s (xsb_s (xsb_n xsb_0))))) (by decide) (by decide)
    · refine xg_aload_n dX12_treaty_27 (Eq.refl 28) rfl ?_
      refine xg_iload_n dX12_treaty_28 (Eq.refl 29) rfl ?_
      refine xg_i2l dX12_treaty_29 (Eq.refl 30) h3 ?_
      refine xg_lconst (z := 0) dX12_treaty_30 (Eq.refl 31) rfl ?_
      refine xg_ldc2 (z := 30) xq_243 dX12_treaty_31 (Eq.refl 34) (by decide +kernel) ?_
      refine xg_callV_Z (kc := 0) (ks := 0) (st := [.ref x0]) (mX12_in hl x0 h0 x3 (R32.j h3) 0 (by decide) 30 (by decide) M4 hM4) bX12_in xcl12 h0 rfl xq_179 rfl (by decide) rfl (Nat.le_of_ble_eq_true rfl) dX12_treaty_34 (Eq.refl 37) rfl (by decide) (by decide) ?_
      intro z5 M6 hz5 hM6
      refine xg_if_eq (tgt := 44) dX12_treaty_37 (Eq.refl 40) (by decide) (B01.r hz5) ?_ ?_
      · exact xg_jump (gX12_treaty_44 hl x0 h0 x1 h1 x2 h2 x3 h3 x0 h0 M6 hM6) (xsb_s (xsb_s (xsb_s (xsb_s (xsb_n xsb_0))))) (by decide) (by decide)
      · refine xg_iconst dX12_treaty_40 (Eq.refl 41) ?_
        refine xg_goto (tgt := 45) dX12_treaty_41 (by decide) ?_
        exact xg_jump (gX12_treaty_45 hl x0 h0 x1 h1 x2 h2 x3 h3 0 (by decide) x0 h0 M6 hM6) (xsb_s (xsb_s (xsb_s (xsb_s (xsb_n xsb_0))))) (by decide) (by decide)
