abbrev uX3_takeTurns : xU := (RX3, cX3_takeTurns, 3, none, [], "takeTurns")
theorem bX3_takeTurns : xYV yX3_takeTurns cX3_takeTurns 3 none 0 := ⟨xq_727, xq_728, xq_26, xq_729, ⟨by decide +kernel, by decide +kernel, by decide +kernel⟩, by decide⟩
theorem gX3_takeTurns_60 {l : Launch} {G : xG} (hl : l.stackTraces = false) (rc2 : Int → xM → xO) (x0 : Nat) (h0 : xOb 3 x0) (x1 : Int) (h1 : R32 x1) (hr2 : ∀ w1 : Int, R32 w1 → ∀ M : xM, xcan M → Gv l G uX3_takeTurns 7 3 0 0 2 [some (.ref x0), some (iv w1), none] [] M (rc2 w1 M)) (M : xM) (hM : xcan M) : Gv l G uX3_takeTurns 7 3 0 0 60 [some (.ref x0), some (iv x1), none] [] M (fX3_takeTurns_60 rc2 x0 x1 M) := by
  unfold fX3_takeTurns_60
  refine xg_iinc (ls2 := [some (.ref x0), some (iv (w32 (x1 + 1))), none]) dX3_takeTurns_60 (Eq.refl 63) rfl (by decide) rfl ?_
  refine xg_goto (tgt := 2) dX3_takeTurns_63 (by decide) ?_
  exact xg_jump (hr2 (w32 (x1 + 1)) (w32_r _) M hM) (xsb_s (xsb_s (xsb_n xsb_0))) (by decide) (by decide)
theorem gX3_takeTurns_41 {l : Launch} {G : xG} (hl : l.stackTraces = false) (rc2 : Int → xM → xO) (x0 : Nat) (h0 : xOb 3 x0) (x1 : Int) (h1 : R32 x1) (x2 : Nat) (h2 : xOb 4 x2) (hr2 : ∀ w1 : Int, R32 w1 → ∀ M : xM, xcan M → Gv l G uX3_takeTurns 7 3 0 0 2 [some (.ref x0), some (iv w1), none] [] M (rc2 w1 M)) (M : xM) (hM : xcan M) : Gv l G uX3_takeTurns 7 3 0 0 41 [some (.ref x0), some (iv x1), some (.ref x2)] [] M (fX3_takeTurns_41 rc2 x0 x1 x2 M) := by
  unfold fX3_takeTurns_41
  refine xg_aload_n dX3_takeTurns_41 (Eq.refl 42) rfl ?_
  refine xg_getI (k := 6) xcl4 h2 rfl xq_733 rfl dX3_takeTurns_42 (Eq.refl 45) ?_
  refine xg_aload_n dX3_takeTurns_45 (Eq.refl 46) rfl ?_
  refine xg_getR (k := 0) xcl3 h0 rfl xq_114 rfl (xt_3_0 h0).1 dX3_takeTurns_46 (Eq.refl 49) ?_
  refine xg_getI (k := 16) xcl1 (xt_3_0 h0).2 rfl xq_732 rfl dX3_takeTurns_49 (Eq.refl 52) ?_
  refine xg_icmp_ne (tgt := 60) dX3_takeTurns_52 (Eq.refl 55) (by decide) (hM.I h2 rfl) (hM.I (xt_3_0 h0).2 rfl) ?_ ?_
  · refine xg_aload_n dX3_takeTurns_55 (Eq.refl 56) rfl ?_
    refine xg_aload_n dX3_takeTurns_56 (Eq.refl 57) rfl ?_
    refine xg_callV_N (kc := 0) (ks := 0) (st := []) (mX3_payOut hl x0 h0 x2 h2 M hM) bX3_payOut xcl3 h0 rfl xq_760 rfl (by decide) rfl (by decide) dX3_takeTurns_57 (Eq.refl 60) rfl (by decide) (by decide) ?_
    intro z1 M2 hz1 hM2
    exact xg_jump (gX3_takeTurns_60 hl rc2 x0 h0 x1 h1 hr2 M2 hM2) (xsb_s (xsb_s (xsb_n xsb_0))) (by decide) (by decide)
  · exact xg_jump (gX3_takeTurns_60 hl rc2 x0 h0 x1 h1 hr2 M hM) (xsb_s (xsb_s (xsb_n xsb_0))) (by decide) (by decide)
theorem gX3_takeTurns_2 {l : Launch} {G : xG} (hl : l.stackTraces = false) (x0 : Nat) (h0 : xOb 3 x0) : ∀ (n : Nat) (x1 : Int) (_ : R32 x1) (M : xM) (_ : xcan M), Gv l G uX3_takeTurns 7 3 0 0 2 [some (.ref x0), some (iv x1), none] [] M (fX3_takeTurns_2 x0 n x1 M) := by
  intro n; induction n with
  | zero => intro x1 h1 M hM; exact xg_none
  | succ n ih =>
    intro x1 h1 M hM
    rw [fX3_takeTurns_2]
    refine xg_iload_n dX3_takeTurns_2 (Eq.refl 3) rfl ?_
    refine xg_aload_n dX3_takeTurns_3 (Eq.refl 4) rfl ?_
    refine xg_getR (k := 0) xcl3 h0 rfl xq_114 rfl (xt_3_0 h0).1 dX3_takeTurns_4 (Eq.refl 7) ?_
    refine xg_getI (k := 15) xcl1 (xt_3_0 h0).2 rfl xq_730 rfl dX3_takeTurns_7 (Eq.refl 10) ?_
    refine xg_icmp_ge (tgt := 66) dX3_takeTurns_10 (Eq.refl 13) (by decide) h1 (hM.I (xt_3_0 h0).2 rfl) ?_ ?_
    · exact xg_vret rfl dX3_takeTurns_66 rfl hM
    · refine xg_aload_n dX3_takeTurns_13 (Eq.refl 14) rfl ?_
      refine xg_getR (k := 0) xcl3 h0 rfl xq_114 rfl (xt_3_0 h0).1 dX3_takeTurns_14 (Eq.refl 17) ?_
      refine xg_iload_n dX3_takeTurns_17 (Eq.refl 18) rfl ?_
      refine xg_callV_R (cr := 4) (kc := 0) (ks := 0) (st := []) (mX1_event hl (xr x0 0) (xt_3_0 h0).2 x1 h1 M hM) bX1_event xcl1 (xt_3_0 h0).2 rfl xq_734 rfl (by decide) rfl (by decide) dX3_takeTurns_18 (Eq.refl 21) rfl (by decide) (by decide) ?_
      intro z1 M2 hz1 hM2
      refine xg_astore_n (ls2 := [some (.ref x0), some (iv x1), some (.ref z1.toNat)]) dX3_takeTurns_21 (Eq.refl 22) (by decide) rfl ?_
      refine xg_aload_n dX3_takeTurns_22 (Eq.refl 23) rfl ?_
      refine xg_getI (k := 5) xcl4 hz1 rfl xq_731 rfl dX3_takeTurns_23 (Eq.refl 26) ?_
      refine xg_aload_n dX3_takeTurns_26 (Eq.refl 27) rfl ?_
      refine xg_getR (k := 0) xcl3 h0 rfl xq_114 rfl (xt_3_0 h0).1 dX3_takeTurns_27 (Eq.refl 30) ?_
      refine xg_getI (k := 16) xcl1 (xt_3_0 h0).2 rfl xq_732 rfl dX3_takeTurns_30 (Eq.refl 33) ?_
      refine xg_icmp_ne (tgt := 41) dX3_takeTurns_33 (Eq.refl 36) (by decide) (hM2.I hz1 rfl) (hM2.I (xt_3_0 h0).2 rfl) ?_ ?_
      · refine xg_aload_n dX3_takeTurns_36 (Eq.refl 37) rfl ?_
        refine xg_aload_n dX3_takeTurns_37 (Eq.refl 38) rfl ?_
        refine xg_callV_N (kc := 0) (ks := 0) (st := []) (mX3_note hl x0 h0 z1.toNat hz1 M2 hM2) bX3_note xcl3 h0 rfl xq_735 rfl (by decide) rfl (by decide) dX3_takeTurns_38 (Eq.refl 41) rfl (by decide) (by decide) ?_
        intro z3 M4 hz3 hM4
        exact xg_jump (gX3_takeTurns_41 hl (fX3_takeTurns_2 x0 n) x0 h0 x1 h1 z1.toNat hz1 ih M4 hM4) (xsb_s (xsb_s (xsb_s xsb_0))) (by decide) (by decide)
      · exact xg_jump (gX3_takeTurns_41 hl (fX3_takeTurns_2 x0 n) x0 h0 x1 h1 z1.toNat hz1 ih M2 hM2) (xsb_s (xsb_s (xsb_s xsb_0))) (by decide) (by decide)
theorem mX3_takeTurns {l : Launch} {G : xG} (hl : l.stackTraces = false) (x0 : Nat) (h0 : xOb 3 x0) (M : xM) (hM : xcan M) : Cm l G yX3_takeTurns cX3_takeTurns 3 none 7 3 0 0 [.ref x0] M (fX3_takeTurns x0 M) := by
  refine xcm_of (u := uX3_takeTurns) (ls := [some (.ref x0), none, none]) 2 hl rfl (by decide +kernel) (Nat.le_of_ble_eq_true rfl) rfl ?_
  unfold fX3_takeTurns
  refine xg_iconst dX3_takeTurns_0 (Eq.refl 1) ?_
  refine xg_istore_n (ls2 := [some (.ref x0), some (iv 0), none]) dX3_takeTurns_1 (Eq.refl 2) (by decide) rfl ?_
  exact xg_jump (gX3_takeTurns_2 hl x0 h0 xN 0 (by decide) M hM) (xsb_s (xsb_s (xsb_n xsb_0))) (by decide) (by decide)
abbrev uX3_finedFor : xU := (RX3, cX3_finedFor, 3, (some .int), [], "finedFor")
theorem bX3_finedFor : xYV yX3_finedFor cX3_finedFor 3 (some .int) 1 := ⟨xq_871, xq_872, xq_26, xq_873, ⟨by decide +kernel, by decide +kernel, by decide +kernel⟩, by decide⟩
theorem gX3_finedFor_44 {l : Launch} {G : xG} (hl : l.stackTraces = false) (x1 : Nat) (h1 : xOb 10 x1) (s0 : Int) (hs0 : B01 s0) (M : xM) (hM : xcan M) : Gv l G uX3_finedFor 3 0 0 0 44 [none, some (.ref x1), none] [iv s0] M (fX3_finedFor_44 x1 s0 M) := by
  unfold fX3_finedFor_44
  refine xg_istore_n (ls2 := [none, some (.ref x1), some (iv s0)]) dX3_finedFor_44 (Eq.refl 45) (by decide) rfl ?_
  refine xg_iload_n dX3_finedFor_45 (Eq.refl 46) rfl ?_
  refine xg_if_eq (tgt := 56) dX3_finedFor_46 (Eq.refl 49) (by decide) (B01.r hs0) ?_ ?_
  · refine xg_aload_n dX3_finedFor_56 (Eq.refl 57) rfl ?_
    refine xg_getI (k := 3) xcl10 h1 rfl xq_845 rfl dX3_finedFor_57 (Eq.refl 60) ?_
    exact xg_iret rfl dX3_finedFor_60 rfl hM (hM.I h1 rfl)
  · refine xg_aload_n dX3_finedFor_49 (Eq.refl 50) rfl ?_
    refine xg_getI (k := 4) xcl10 h1 rfl xq_846 rfl dX3_finedFor_50 (Eq.refl 53) ?_
    refine xg_goto (tgt := 60) dX3_finedFor_53 (by decide) ?_
    exact xg_iret rfl dX3_finedFor_60 rfl hM (hM.I h1 rfl)
theorem gX3_finedFor_43 {l : Launch} {G : xG} (hl : l.stackTraces = false) (x1 : Nat) (h1 : xOb 10 x1) (M : xM) (hM : xcan M) : Gv l G uX3_finedFor 3 0 0 0 43 [none, some (.ref x1), none] [] M (fX3_finedFor_43 x1 M) := by
  unfold fX3_finedFor_43
  refine xg_iconst dX3_finedFor_43 (Eq.refl 44) ?_
  exact xg_jump (gX3_finedFor_44 hl x1 h1 0 (by decide) M hM) (xsb_n (xsb_s (xsb_n xsb_0))) (by decide) (by decide)
theorem gX3_finedFor_39 {l : Launch} {G : xG} (hl : l.stackTraces = false) (x1 : Nat) (h1 : xOb 10 x1) (M : xM) (hM : xcan M) : Gv l G uX3_finedFor 3 0 0 0 39 [none, some (.ref x1), none] [] M (fX3_finedFor_39 x1 M) := by
  unfold fX3_finedFor_39
  refine xg_iconst dX3_finedFor_39 (Eq.refl 40) ?_
  refine xg_goto (tgt := 44) dX3_finedFor_40 (by decide) ?_
  exact xg_jump (gX3_finedFor_44 hl x1 h1 1 (by decide) M hM) (xsb_n (xsb_s (xsb_n xsb_0))) (by decide) (by decide)
theorem mX3_finedFor {l : Launch} {G : xG} (hl : l.stackTraces = false) (x0 : Nat) (h0 : xOb 3 x0) (x1 : Nat) (h1 : xOb 10 x1) (M : xM) (hM : xcan M) : Cm l G yX3_finedFor cX3_finedFor 3 (some .int) 3 0 0 0 [.ref x0, .ref x1] M (fX3_finedFor x0 x1 M) := by
  refine xcm_of (u := uX3_finedFor) (ls := [some (.ref x0), some (.ref x1), none]) 1 hl rfl (by decide +kernel) (Nat.le_of_ble_eq_true rfl) rfl ?_
  unfold fX3_finedFor
  refine xg_aload_n dX3_finedFor_0 (Eq.refl 1) rfl ?_
  refine xg_getR (k := 0) xcl3 h0 rfl xq_114 rfl (xt_3_0 h0).1 dX3_finedFor_1 (Eq.refl 4) ?_
  refine xg_aload_n dX3_finedFor_4 (Eq.refl 5) rfl ?_
  refine xg_getI (k := 1) xcl10 h1 rfl xq_874 rfl dX3_finedFor_5 (Eq.refl 8) ?_
  refine xg_callV_R (cr := 5) (kc := 0) (ks := 0) (st := []) (mX1_instruction hl (xr x0 0) (xt_3_0 h0).2 (M x1 1) (hM.I h1 rfl) M hM) bX1_instruction xcl1 (xt_3_0 h0).2 rfl xq_876 rfl (by decide) rfl (by decide) dX3_finedFor_8 (Eq.refl 11) rfl (by decide) (by decide) ?_
  intro z1 M2 hz1 hM2
  refine xg_getZ (k := 11) xcl5 hz1 rfl xq_875 rfl dX3_finedFor_11 (Eq.refl 14) hM2 ?_
  refine xg_if_ne (tgt := 39) dX3_finedFor_14 (Eq.refl 17) (by decide) (B01.r (hM2.Z hz1 rfl)) ?_ ?_
  · refine xg_aload_n dX3_finedFor_17 (Eq.refl 18) rfl ?_
    refine xg_getR (k := 0) xcl3 h0 rfl xq_114 rfl (xt_3_0 h0).1 dX3_finedFor_18 (Eq.refl 21) ?_
    refine xg_aload_n dX3_finedFor_21 (Eq.refl 22) rfl ?_
    refine xg_callV_Z (kc := 0) (ks := 0) (st := []) (mX1_isHeldUp hl (xr x0 0) (xt_3_0 h0).2 x1 h1 M2 hM2) bX1_isHeldUp xcl1 (xt_3_0 h0).2 rfl xq_877 rfl (by decide) rfl (by decide) dX3_finedFor_22 (Eq.refl 25) rfl (by decide) (by decide) ?_
    intro z3 M4 hz3 hM4
    refine xg_if_ne (tgt := 43) dX3_finedFor_25 (Eq.refl 28) (by decide) (B01.r hz3) ?_ ?_
    · refine xg_aload_n dX3_finedFor_28 (Eq.refl 29) rfl ?_
      refine xg_getR (k := 0) xcl3 h0 rfl xq_114 rfl (xt_3_0 h0).1 dX3_finedFor_29 (Eq.refl 32) ?_
      refine xg_aload_n dX3_finedFor_32 (Eq.refl 33) rfl ?_
      refine xg_callV_Z (kc := 0) (ks := 0) (st := []) (mX1_isLacking hl (xr x0 0) (xt_3_0 h0).2 x1 h1 M4 hM4) bX1_isLacking xcl1 (xt_3_0 h0).2 rfl xq_878 rfl (by decide) rfl (by decide) dX3_finedFor_33 (Eq.refl 36) rfl (by decide) (by decide) ?_
      intro z5 M6 hz5 hM6
      refine xg_if_eq (tgt := 43) dX3_finedFor_36 (Eq.refl 39) (by decide) (B01.r hz5) ?_ ?_
      · exact xg_jump (gX3_finedFor_43 hl x1 h1 M6 hM6) (xsb_n (xsb_s (xsb_n xsb_0))) (by decide) (by decide)
      · exact xg_jump (gX3_finedFor_39 hl x1 h1 M6 hM6) (xsb_n (xsb_s (xsb_n xsb_0))) (by decide) (by decide)
    · exact xg_jump (gX3_finedFor_43 hl x1 h1 M4 hM4) (xsb_n (xsb_s (xsb_n xsb_0))) (by decide) (by decide)
  · exact xg_jump (gX3_finedFor_39 hl x1 h1 M2 hM2) (xsb_n (xsb_s (xsb_n xsb_0))) (by decide) (by decide)
abbrev uX3_tellFine : xU := (RX3, cX3_tellFine, 8, (some .int), [], "tellFine")
theorem bX3_tellFine : xYV yX3_tellFine cX3_tellFine 8 (some .int) 4 := ⟨xq_880, xq_881, xq_26, xq_882, ⟨by decide +kernel, by decide +kernel, by decide +kernel⟩, by decide⟩
theorem mX3_tellFine {l : Launch} {G : xG} (hl : l.stackTraces = false) (x0 : Nat) (h0 : xOb 3 x0) (x1 : Int) (h1 : R32 x1) (x2 : Int) (h2 : R32 x2) (x3 : Int) (h3 : R32 x3) (x4 : Int) (h4 : R64 x4) (M : xM) (hM : xcan M) : Cm l G yX3_tellFine cX3_tellFine 8 (some .int) 3 0 0 0 [.ref x0, iv x1, iv x2, iv x3, jv x4] M (fX3_tellFine x0 x1 x2 x3 x4 M) := by
  refine xcm_of (u := uX3_tellFine) (ls := [some (.ref x0), some (iv x1), some (iv x2), some (iv x3), some (jv x4), none, none, none]) 2 hl rfl (by decide +kernel) (Nat.le_of_ble_eq_true rfl) rfl ?_
  unfold fX3_tellFine
  refine xg_iload_n dX3_tellFine_0 (Eq.refl 1) rfl ?_
  refine xg_iload_n dX3_tellFine_1 (Eq.refl 2) rfl ?_
  refine xg_icmp_ne (tgt := 7) dX3_tellFine_2 (Eq.refl 5) (by decide) h1 h2 ?_ ?_
  · refine xg_iconst dX3_tellFine_5 (Eq.refl 6) ?_
    exact xg_iret rfl dX3_tellFine_6 rfl hM (by decide)
  · refine xg_aload_n dX3_tellFine_7 (Eq.refl 8) rfl ?_
    refine xg_getR (k := 0) xcl3 h0 rfl xq_114 rfl (xt_3_0 h0).1 dX3_tellFine_8 (Eq.refl 11) ?_
    refine xg_iload_n dX3_tellFine_11 (Eq.refl 12) rfl ?_
    refine xg_lload dX3_tellFine_12 (Eq.refl 14) rfl ?_
    refine xg_callV_J (kc := 0) (ks := 0) (st := []) (mX1_worthOf hl (xr x0 0) (xt_3_0 h0).2 x3 h3 x4 h4 M hM) bX1_worthOf xcl1 (xt_3_0 h0).2 rfl xq_886 rfl (by decide) rfl (by decide) dX3_tellFine_14 (Eq.refl 17) rfl (by decide) (by decide) ?_
    intro z1 M2 hz1 hM2
    refine xg_aload_n dX3_tellFine_17 (Eq.refl 18) rfl ?_
    refine xg_getR (k := 0) xcl3 h0 rfl xq_114 rfl (xt_3_0 h0).1 dX3_tellFine_18 (Eq.refl 21) ?_
    refine xg_iload_n dX3_tellFine_21 (Eq.refl 22) rfl ?_
    refine xg_callV_R (cr := 9) (kc := 0) (ks := 0) (st := [jv z1]) (mX1_security hl (xr x0 0) (xt_3_0 h0).2 x3 h3 M2 hM2) bX1_security xcl1 (xt_3_0 h0).2 rfl xq_789 rfl (by decide) rfl (Nat.le_of_ble_eq_true rfl) dX3_tellFine_22 (Eq.refl 25) rfl (by decide) (by decide) ?_
    intro z3 M4 hz3 hM4
    refine xg_getI (k := 2) xcl9 hz3 rfl xq_883 rfl dX3_tellFine_25 (Eq.refl 28) ?_
    refine xg_i2l dX3_tellFine_28 (Eq.refl 29) (hM4.I hz3 rfl) ?_
    refine xg_lmul dX3_tellFine_29 (Eq.refl 30) ?_
    refine xg_ldc2 (z := 10000) xq_884 dX3_tellFine_30 (Eq.refl 33) (by decide +kernel) ?_
    refine xg_ldivk dX3_tellFine_33 (Eq.refl 34) (w64_r _) (by decide) ?_
    refine xg_lconst (z := 1) dX3_tellFine_34 (Eq.refl 35) rfl ?_
    refine xg_ladd dX3_tellFine_35 (Eq.refl 36) ?_
    refine xg_lstoreL (P := R64) (ls2 := fun y5 => [some (.ref x0), some (iv x1), some (iv x2), some (iv x3), some (jv x4), none, some (jv y5), none]) dX3_tellFine_36 (Eq.refl 38) (by decide) (w64_r _) (fun _ => rfl) ?_
    intro y5 hy5
    refine xg_aload_n dX3_tellFine_38 (Eq.refl 39) rfl ?_
    refine xg_getR (k := 0) xcl3 h0 rfl xq_114 rfl (xt_3_0 h0).1 dX3_tellFine_39 (Eq.refl 42) ?_
    refine xg_iload_n dX3_tellFine_42 (Eq.refl 43) rfl ?_
    refine xg_iload_n dX3_tellFine_43 (Eq.refl 44) rfl ?_
    refine xg_lload dX3_tellFine_44 (Eq.refl 46) rfl ?_
    refine xg_callV_N (kc := 0) (ks := 0) (st := []) (mX1_owe hl (xr x0 0) (xt_3_0 h0).2 x1 h1 x2 h2 y5 hy5 M4 hM4) bX1_owe xcl1 (xt_3_0 h0).2 rfl xq_851 rfl (by decide) rfl (by decide) dX3_tellFine_46 (Eq.refl 49) rfl (by decide) (by decide) ?_
    intro z6 M7 hz6 hM7
    refine xg_aload_n dX3_tellFine_49 (Eq.refl 50) rfl ?_
    refine xg_getR (k := 0) xcl3 h0 rfl xq_114 rfl (xt_3_0 h0).1 dX3_tellFine_50 (Eq.refl 53) ?_
    refine xg_getR (k := 0) xcl1 (xt_3_0 h0).2 rfl xq_885 rfl (xt_1_0 (xt_3_0 h0).2).1 dX3_tellFine_53 (Eq.refl 56) ?_
    refine xg_iload_n dX3_tellFine_56 (Eq.refl 57) rfl ?_
    refine xg_callV_N (kc := 0) (ks := 0) (st := []) (mX8_tell hl (xr (xr x0 0) 0) (xt_1_0 (xt_3_0 h0).2).2 x1 h1 M7 hM7) bX8_tell xcl8 (xt_1_0 (xt_3_0 h0).2).2 rfl xq_887 rfl (by decide) rfl (by decide) dX3_tellFine_57 (Eq.refl 60) rfl (by decide) (by decide) ?_
    intro z8 M9 hz8 hM9
    refine xg_aload_n dX3_tellFine_60 (Eq.refl 61) rfl ?_
    refine xg_getR (k := 0) xcl3 h0 rfl xq_114 rfl (xt_3_0 h0).1 dX3_tellFine_61 (Eq.refl 64) ?_
    refine xg_getR (k := 0) xcl1 (xt_3_0 h0).2 rfl xq_885 rfl (xt_1_0 (xt_3_0 h0).2).1 dX3_tellFine_64 (Eq.refl 67) ?_
    refine xg_iload_n dX3_tellFine_67 (Eq.refl 68) rfl ?_
    refine xg_callV_N (kc := 0) (ks := 0) (st := []) (mX8_tell hl (xr (xr x0 0) 0) (xt_1_0 (xt_3_0 h0).2).2 x2 h2 M9 hM9) bX8_tell xcl8 (xt_1_0 (xt_3_0 h0).2).2 rfl xq_887 rfl (by decide) rfl (by decide) dX3_tellFine_68 (Eq.refl 71) rfl (by decide) (by decide) ?_
    intro z10 M11 hz10 hM11
    refine xg_iconst dX3_tellFine_71 (Eq.refl 72) ?_
    exact xg_iret rfl dX3_tellFine_72 rfl hM11 (by decide)
abbrev uX3_tellFinesOfTrades : xU := (RX3, cX3_tellFinesOfTrades, 5, (some .int), [], "tellFinesOfTrades")
theorem bX3_tellFinesOfTrades : xYV yX3_tellFinesOfTrades cX3_tellFinesOfTrades 5 (some .int) 0 := ⟨xq_857, xq_858, xq_26, xq_859, ⟨by decide +kernel, by decide +kernel, by decide +kernel⟩, by decide⟩
theorem gX3_tellFinesOfTrades_67 {l : Launch} {G : xG} (hl : l.stackTraces = false) (rc4 : Int → Int → xM → xO) (x0 : Nat) (h0 : xOb 3 x0) (x1 : Int) (h1 : R32 x1) (x2 : Int) (h2 : R32 x2) (hr4 : ∀ w1 : Int, R32 w1 → ∀ w2 : Int, R32 w2 → ∀ M : xM, xcan M → Gv l G uX3_tellFinesOfTrades 4 0 0 0 4 [some (.ref x0), some (iv w1), some (iv w2), none, none] [] M (rc4 w1 w2 M)) (M : xM) (hM : xcan M) : Gv l G uX3_tellFinesOfTrades 4 0 0 0 67 [some (.ref x0), some (iv x1), some (iv x2), none, none] [] M (fX3_tellFinesOfTrades_67 rc4 x0 x1 x2 M) := by
  unfold fX3_tellFinesOfTrades_67
  refine xg_iinc (ls2 := [some (.ref x0), some (iv x1), some (iv (w32 (x2 + 1))), none, none]) dX3_tellFinesOfTrades_67 (Eq.refl 70) rfl (by decide) rfl ?_
  refine xg_goto (tgt := 4) dX3_tellFinesOfTrades_70 (by decide) ?_
  exact xg_jump (hr4 x1 h1 (w32 (x2 + 1)) (w32_r _) M hM) (xsb_s (xsb_s (xsb_s (xsb_n (xsb_n xsb_0))))) (by decide) (by decide)
theorem gX3_tellFinesOfTrades_4 {l : Launch} {G : xG} (hl : l.stackTraces = false) (x0 : Nat) (h0 : xOb 3 x0) : ∀ (n : Nat) (x1 : Int) (_ : R32 x1) (x2 : Int) (_ : R32 x2) (M : xM) (_ : xcan M), Gv l G uX3_tellFinesOfTrades 4 0 0 0 4 [some (.ref x0), some (iv x1), some (iv x2), none, none] [] M (fX3_tellFinesOfTrades_4 x0 n x1 x2 M) := by
  intro n; induction n with
  | zero => intro x1 h1 x2 h2 M hM; exact xg_none
  | succ n ih =>
    intro x1 h1 x2 h2 M hM
    rw [fX3_tellFinesOfTrades_4]
    refine xg_iload_n dX3_tellFinesOfTrades_4 (Eq.refl 5) rfl ?_
    refine xg_aload_n dX3_tellFinesOfTrades_5 (Eq.refl 6) rfl ?_
    refine xg_getR (k := 0) xcl3 h0 rfl xq_114 rfl (xt_3_0 h0).1 dX3_tellFinesOfTrades_6 (Eq.refl 9) ?_
    refine xg_getI (k := 12) xcl1 (xt_3_0 h0).2 rfl xq_741 rfl dX3_tellFinesOfTrades_9 (Eq.refl 12) ?_
    refine xg_icmp_ge (tgt := 73) dX3_tellFinesOfTrades_12 (Eq.refl 15) (by decide) h2 (hM.I (xt_3_0 h0).2 rfl) ?_ ?_
    · refine xg_iload_n dX3_tellFinesOfTrades_73 (Eq.refl 74) rfl ?_
      exact xg_iret rfl dX3_tellFinesOfTrades_74 rfl hM h1
    · refine xg_aload_n dX3_tellFinesOfTrades_15 (Eq.refl 16) rfl ?_
      refine xg_getR (k := 0) xcl3 h0 rfl xq_114 rfl (xt_3_0 h0).1 dX3_tellFinesOfTrades_16 (Eq.refl 19) ?_
      refine xg_iload_n dX3_tellFinesOfTrades_19 (Eq.refl 20) rfl ?_
      refine xg_callV_R (cr := 10) (kc := 0) (ks := 0) (st := []) (mX1_trade hl (xr x0 0) (xt_3_0 h0).2 x2 h2 M hM) bX1_trade xcl1 (xt_3_0 h0).2 rfl xq_754 rfl (by decide) rfl (by decide) dX3_tellFinesOfTrades_20 (Eq.refl 23) rfl (by decide) (by decide) ?_
      intro z1 M2 hz1 hM2
      refine xg_astore_n (ls2 := [some (.ref x0), some (iv x1), some (iv x2), some (.ref z1.toNat), none]) dX3_tellFinesOfTrades_23 (Eq.refl 24) (by decide) rfl ?_
      refine xg_aload_n dX3_tellFinesOfTrades_24 (Eq.refl 25) rfl ?_
      refine xg_getR (k := 0) xcl3 h0 rfl xq_114 rfl (xt_3_0 h0).1 dX3_tellFinesOfTrades_25 (Eq.refl 28) ?_
      refine xg_aload_n dX3_tellFinesOfTrades_28 (Eq.refl 29) rfl ?_
      refine xg_callV_Z (kc := 0) (ks := 0) (st := []) (mX1_isDue hl (xr x0 0) (xt_3_0 h0).2 z1.toNat hz1 M2 hM2) bX1_isDue xcl1 (xt_3_0 h0).2 rfl xq_755 rfl (by decide) rfl (by decide) dX3_tellFinesOfTrades_29 (Eq.refl 32) rfl (by decide) (by decide) ?_
      intro z3 M4 hz3 hM4
      refine xg_if_eq (tgt := 67) dX3_tellFinesOfTrades_32 (Eq.refl 35) (by decide) (B01.r hz3) ?_ ?_
      · exact xg_jump (gX3_tellFinesOfTrades_67 hl (fX3_tellFinesOfTrades_4 x0 n) x0 h0 x1 h1 x2 h2 ih M4 hM4) (xsb_s (xsb_s (xsb_s (xsb_n (xsb_n xsb_0))))) (by decide) (by decide)
      · refine xg_aload_n dX3_tellFinesOfTrades_35 (Eq.refl 36) rfl ?_
        refine xg_getR (k := 0) xcl3 h0 rfl xq_114 rfl (xt_3_0 h0).1 dX3_tellFinesOfTrades_36 (Eq.refl 39) ?_
        refine xg_aload_n dX3_tellFinesOfTrades_39 (Eq.refl 40) rfl ?_
        refine xg_callV_I (kc := 0) (ks := 0) (st := []) (mX1_causerOf hl (xr x0 0) (xt_3_0 h0).2 z1.toNat hz1 M4 hM4) bX1_causerOf xcl1 (xt_3_0 h0).2 rfl xq_860 rfl (by decide) rfl (by decide) dX3_tellFinesOfTrades_40 (Eq.refl 43) rfl (by decide) (by decide) ?_
        intro z5 M6 hz5 hM6
        refine xg_istore (ls2 := [some (.ref x0), some (iv x1), some (iv x2), some (.ref z1.toNat), some (iv z5)]) dX3_tellFinesOfTrades_43 (Eq.refl 45) (by decide) rfl ?_
        refine xg_iload_n dX3_tellFinesOfTrades_45 (Eq.refl 46) rfl ?_
        refine xg_aload_n dX3_tellFinesOfTrades_46 (Eq.refl 47) rfl ?_
        refine xg_iload dX3_tellFinesOfTrades_47 (Eq.refl 49) rfl ?_
        refine xg_aload_n dX3_tellFinesOfTrades_49 (Eq.refl 50) rfl ?_
        refine xg_aload_n dX3_tellFinesOfTrades_50 (Eq.refl 51) rfl ?_
        refine xg_callV_I (kc := 0) (ks := 0) (st := [iv z5, .ref x0, iv x1]) (mX3_finedFor hl x0 h0 z1.toNat hz1 M6 hM6) bX3_finedFor xcl3 h0 rfl xq_870 rfl (by decide) rfl (Nat.le_of_ble_eq_true rfl) dX3_tellFinesOfTrades_51 (Eq.refl 54) rfl (by decide) (by decide) ?_
        intro z7 M8 hz7 hM8
        refine xg_aload_n dX3_tellFinesOfTrades_54 (Eq.refl 55) rfl ?_
        refine xg_getI (k := 5) xcl10 hz1 rfl xq_743 rfl dX3_tellFinesOfTrades_55 (Eq.refl 58) ?_
        refine xg_aload_n dX3_tellFinesOfTrades_58 (Eq.refl 59) rfl ?_
        refine xg_getJ (k := 6) xcl10 hz1 rfl xq_744 rfl dX3_tellFinesOfTrades_59 (Eq.refl 62) ?_
        refine xg_callV_I (kc := 0) (ks := 0) (st := [iv x1]) (mX3_tellFine hl x0 h0 z5 hz5 z7 hz7 (M8 z1.toNat 5) (hM8.I hz1 rfl) (M8 z1.toNat 6) (hM8.J hz1 rfl) M8 hM8) bX3_tellFine xcl3 h0 rfl xq_879 rfl (by decide) rfl (Nat.le_of_ble_eq_true rfl) dX3_tellFinesOfTrades_62 (Eq.refl 65) rfl (by decide) (by decide) ?_
        intro z9 M10 hz9 hM10
        refine xg_iadd dX3_tellFinesOfTrades_65 (Eq.refl 66) ?_
        refine xg_istore_nL (P := R32) (ls2 := fun y11 => [some (.ref x0), some (iv y11), some (iv x2), some (.ref z1.toNat), some (iv z5)]) dX3_tellFinesOfTrades_66 (Eq.refl 67) (by decide) (w32_r _) (fun _ => rfl) ?_
        intro y11 hy11
        exact xg_jump (gX3_tellFinesOfTrades_67 hl (fX3_tellFinesOfTrades_4 x0 n) x0 h0 y11 hy11 x2 h2 ih M10 hM10) (xsb_s (xsb_s (xsb_s (xsb_n (xsb_n xsb_0))))) (by decide) (by decide)
theorem mX3_tellFinesOfTrades {l : Launch} {G : xG} (hl : l.stackTraces = false) (x0 : Nat) (h0 : xOb 3 x0) (M : xM) (hM : xcan M) : Cm l G yX3_tellFinesOfTrades cX3_tellFinesOfTrades 5 (some .int) 4 0 0 0 [.ref x0] M (fX3_tellFinesOfTrades x0 M) := by
  refine xcm_of (u := uX3_tellFinesOfTrades) (ls := [some (.ref x0), none, none, none, none]) 4 hl rfl (by decide +kernel) (Nat.le_of_ble_eq_true rfl) rfl ?_
  unfold fX3_tellFinesOfTrades
  refine xg_iconst dX3_tellFinesOfTrades_0 (Eq.refl 1) ?_
  refine xg_istore_n (ls2 := [some (.ref x0), some (iv 0), none, none, none]) dX3_tellFinesOfTrades_1 (Eq.refl 2) (by decide) rfl ?_
  refine xg_iconst dX3_tellFinesOfTrades_2 (Eq.refl 3) ?_
  refine xg_istore_n (ls2 := [some (.ref x0), some (iv 0), some (iv 0), none, none]) dX3_tellFinesOfTrades_3 (Eq.refl 4) (by decide) rfl ?_
  exact xg_jump (gX3_tellFinesOfTrades_4 hl x0 h0 xN 0 (by decide) 0 (by decide) M hM) (xsb_s (xsb_s (xsb_s (xsb_n (xsb_n xsb_0))))) (by decide) (by decide)
abbrev uX3_tellFinesOfLoans : xU := (RX3, cX3_tellFinesOfLoans, 4, (some .int), [], "tellFinesOfLoans")
theorem bX3_tellFinesOfLoans : xYV yX3_tellFinesOfLoans cX3_tellFinesOfLoans 4 (some .int) 0 := ⟨xq_889, xq_890, xq_26, xq_891, ⟨by decide +kernel, by decide +kernel, by decide +kernel⟩, by decide⟩
theorem gX3_tellFinesOfLoans_61 {l : Launch} {G : xG} (hl : l.stackTraces = false) (rc4 : Int → Int → xM → xO) (x0 : Nat) (h0 : xOb 3 x0) (x1 : Int) (h1 : R32 x1) (x2 : Int) (h2 : R32 x2) (hr4 : ∀ w1 : Int, R32 w1 → ∀ w2 : Int, R32 w2 → ∀ M : xM, xcan M → Gv l G uX3_tellFinesOfLoans 4 0 0 0 4 [some (.ref x0), some (iv w1), some (iv w2), none] [] M (rc4 w1 w2 M)) (M : xM) (hM : xcan M) : Gv l G uX3_tellFinesOfLoans 4 0 0 0 61 [some (.ref x0), some (iv x1), some (iv x2), none] [] M (fX3_tellFinesOfLoans_61 rc4 x0 x1 x2 M) := by
  unfold fX3_tellFinesOfLoans_61
  refine xg_iinc (ls2 := [some (.ref x0), some (iv x1), some (iv (w32 (x2 + 1))), none]) dX3_tellFinesOfLoans_61 (Eq.refl 64) rfl (by decide) rfl ?_
  refine xg_goto (tgt := 4) dX3_tellFinesOfLoans_64 (by decide) ?_
  exact xg_jump (hr4 x1 h1 (w32 (x2 + 1)) (w32_r _) M hM) (xsb_s (xsb_s (xsb_s (xsb_n xsb_0)))) (by decide) (by decide)
theorem gX3_tellFinesOfLoans_4 {l : Launch} {G : xG} (hl : l.stackTraces = false) (x0 : Nat) (h0 : xOb 3 x0) : ∀ (n : Nat) (x1 : Int) (_ : R32 x1) (x2 : Int) (_ : R32 x2) (M : xM) (_ : xcan M), Gv l G uX3_tellFinesOfLoans 4 0 0 0 4 [some (.ref x0), some (iv x1), some (iv x2), none] [] M (fX3_tellFinesOfLoans_4 x0 n x1 x2 M) := by
  intro n; induction n with
  | zero => intro x1 h1 x2 h2 M hM; exact xg_none
  | succ n ih =>
    intro x1 h1 x2 h2 M hM
    rw [fX3_tellFinesOfLoans_4]
    refine xg_iload_n dX3_tellFinesOfLoans_4 (Eq.refl 5) rfl ?_
    refine xg_aload_n dX3_tellFinesOfLoans_5 (Eq.refl 6) rfl ?_
    refine xg_getR (k := 0) xcl3 h0 rfl xq_114 rfl (xt_3_0 h0).1 dX3_tellFinesOfLoans_6 (Eq.refl 9) ?_
    refine xg_getI (k := 14) xcl1 (xt_3_0 h0).2 rfl xq_794 rfl dX3_tellFinesOfLoans_9 (Eq.refl 12) ?_
    refine xg_icmp_ge (tgt := 67) dX3_tellFinesOfLoans_12 (Eq.refl 15) (by decide) h2 (hM.I (xt_3_0 h0).2 rfl) ?_ ?_
    · refine xg_iload_n dX3_tellFinesOfLoans_67 (Eq.refl 68) rfl ?_
      exact xg_iret rfl dX3_tellFinesOfLoans_68 rfl hM h1
    · refine xg_aload_n dX3_tellFinesOfLoans_15 (Eq.refl 16) rfl ?_
      refine xg_getR (k := 0) xcl3 h0 rfl xq_114 rfl (xt_3_0 h0).1 dX3_tellFinesOfLoans_16 (Eq.refl 19) ?_
      refine xg_iload_n dX3_tellFinesOfLoans_19 (Eq.refl 20) rfl ?_
      refine xg_callV_R (cr := 7) (kc := 0) (ks := 0) (st := []) (mX1_loanAt hl (xr x0 0) (xt_3_0 h0).2 x2 h2 M hM) bX1_loanAt xcl1 (xt_3_0 h0).2 rfl xq_797 rfl (by decide) rfl (by decide) dX3_tellFinesOfLoans_20 (Eq.refl 23) rfl (by decide) (by decide) ?_
      intro z1 M2 hz1 hM2
      refine xg_astore_n (ls2 := [some (.ref x0), some (iv x1), some (iv x2), some (.ref z1.toNat)]) dX3_tellFinesOfLoans_23 (Eq.refl 24) (by decide) rfl ?_
      refine xg_aload_n dX3_tellFinesOfLoans_24 (Eq.refl 25) rfl ?_
      refine xg_getZ (k := 5) xcl7 hz1 rfl xq_892 rfl dX3_tellFinesOfLoans_25 (Eq.refl 28) hM2 ?_
      refine xg_if_eq (tgt := 61) dX3_tellFinesOfLoans_28 (Eq.refl 31) (by decide) (B01.r (hM2.Z hz1 rfl)) ?_ ?_
      · exact xg_jump (gX3_tellFinesOfLoans_61 hl (fX3_tellFinesOfLoans_4 x0 n) x0 h0 x1 h1 x2 h2 ih M2 hM2) (xsb_s (xsb_s (xsb_s (xsb_n xsb_0)))) (by decide) (by decide)
      · refine xg_aload_n dX3_tellFinesOfLoans_31 (Eq.refl 32) rfl ?_
        refine xg_getZ (k := 6) xcl7 hz1 rfl xq_893 rfl dX3_tellFinesOfLoans_32 (Eq.refl 35) hM2 ?_
        refine xg_if_ne (tgt := 61) dX3_tellFinesOfLoans_35 (Eq.refl 38) (by decide) (B01.r (hM2.Z hz1 rfl)) ?_ ?_
        · refine xg_iload_n dX3_tellFinesOfLoans_38 (Eq.refl 39) rfl ?_
          refine xg_aload_n dX3_tellFinesOfLoans_39 (Eq.refl 40) rfl ?_
          refine xg_aload_n dX3_tellFinesOfLoans_40 (Eq.refl 41) rfl ?_
          refine xg_getI (k := 1) xcl7 hz1 rfl xq_894 rfl dX3_tellFinesOfLoans_41 (Eq.refl 44) ?_
          refine xg_aload_n dX3_tellFinesOfLoans_44 (Eq.refl 45) rfl ?_
          refine xg_getI (k := 0) xcl7 hz1 rfl xq_895 rfl dX3_tellFinesOfLoans_45 (Eq.refl 48) ?_
          refine xg_aload_n dX3_tellFinesOfLoans_48 (Eq.refl 49) rfl ?_
          refine xg_getI (k := 2) xcl7 hz1 rfl xq_795 rfl dX3_tellFinesOfLoans_49 (Eq.refl 52) ?_
          refine xg_aload_n dX3_tellFinesOfLoans_52 (Eq.refl 53) rfl ?_
          refine xg_getJ (k := 3) xcl7 hz1 rfl xq_796 rfl dX3_tellFinesOfLoans_53 (Eq.refl 56) ?_
          refine xg_callV_I (kc := 0) (ks := 0) (st := [iv x1]) (mX3_tellFine hl x0 h0 (M2 z1.toNat 1) (hM2.I hz1 rfl) (M2 z1.toNat 0) (hM2.I hz1 rfl) (M2 z1.toNat 2) (hM2.I hz1 rfl) (M2 z1.toNat 3) (hM2.J hz1 rfl) M2 hM2) bX3_tellFine xcl3 h0 rfl xq_879 rfl (by decide) rfl (Nat.le_of_ble_eq_true rfl) dX3_tellFinesOfLoans_56 (Eq.refl 59) rfl (by decide) (by decide) ?_
          intro z3 M4 hz3 hM4
          refine xg_iadd dX3_tellFinesOfLoans_59 (Eq.refl 60) ?_
          refine xg_istore_nL (P := R32) (ls2 := fun y5 => [some (.ref x0), some (iv y5), some (iv x2), some (.ref z1.toNat)]) dX3_tellFinesOfLoans_60 (Eq.refl 61) (by decide) (w32_r _) (fun _ => rfl) ?_
          intro y5 hy5
          exact xg_jump (gX3_tellFinesOfLoans_61 hl (fX3_tellFinesOfLoans_4 x0 n) x0 h0 y5 hy5 x2 h2 ih M4 hM4) (xsb_s (xsb_s (xsb_s (xsb_n xsb_0)))) (by decide) (by decide)
        · exact xg_jump (gX3_tellFinesOfLoans_61 hl (fX3_tellFinesOfLoans_4 x0 n) x0 h0 x1 h1 x2 h2 ih M2 hM2) (xsb_s (xsb_s (xsb_s (xsb_n xsb_0)))) (by decide) (by decide)
theorem mX3_tellFinesOfLoans {l : Launch} {G : xG} (hl : l.stackTraces = false) (x0 : Nat) (h0 : xOb 3 x0) (M : xM) (hM : xcan M) : Cm l G yX3_tellFinesOfLoans cX3_tellFinesOfLoans 4 (some .int) 4 0 0 0 [.ref x0] M (fX3_tellFinesOfLoans x0 M) := by
  refine xcm_of (u := uX3_tellFinesOfLoans) (ls := [some (.ref x0), none, none, none]) 3 hl rfl (by decide +kernel) (Nat.le_of_ble_eq_true rfl) rfl ?_
  unfold fX3_tellFinesOfLoans
  refine xg_iconst dX3_tellFinesOfLoans_0 (Eq.refl 1) ?_
  refine xg_istore_n (ls2 := [some (.ref x0), some (iv 0), none, none]) dX3_tellFinesOfLoans_1 (Eq.refl 2) (by decide) rfl ?_
  refine xg_iconst dX3_tellFinesOfLoans_2 (Eq.refl 3) ?_
  refine xg_istore_n (ls2 := [some (.ref x0), some (iv 0), some (iv 0), none]) dX3_tellFinesOfLoans_3 (Eq.refl 4) (by decide) rfl ?_
  exact xg_jump (gX3_tellFinesOfLoans_4 hl x0 h0 xN 0 (by decide) 0 (by decide) M hM) (xsb_s (xsb_s (xsb_s (xsb_n xsb_0)))) (by decide) (by decide)
abbrev uX3_buyIn : xU := (RX3, cX3_buyIn, 4, none, [], "buyIn")
theorem bX3_buyIn : xYV yX3_buyIn cX3_buyIn 4 none 1 := ⟨xq_902, xq_903, xq_26, xq_904, ⟨by decide +kernel, by decide +kernel, by decide +kernel⟩, by decide⟩
theorem mX3_buyIn {l : Launch} {G : xG} (hl : l.stackTraces = false) (x0 : Nat) (h0 : xOb 3 x0) (x1 : Nat) (h1 : xOb 10 x1) (M : xM) (hM : xcan M) : Cm l G yX3_buyIn cX3_buyIn 4 none 4 3 0 0 [.ref x0, .ref x1] M (fX3_buyIn x0 x1 M) := by
  refine xcm_of (u := uX3_buyIn) (ls := [some (.ref x0), some (.ref x1), none, none]) 2 hl rfl (by decide +kernel) (Nat.le_of_ble_eq_true rfl) rfl ?_
  unfold fX3_buyIn
  refine xg_aload_n dX3_buyIn_0 (Eq.refl 1) rfl ?_
  refine xg_getR (k := 0) xcl3 h0 rfl xq_114 rfl (xt_3_0 h0).1 dX3_buyIn_1 (Eq.refl 4) ?_
  refine xg_aload_n dX3_buyIn_4 (Eq.refl 5) rfl ?_
  refine xg_getI (k := 5) xcl10 h1 rfl xq_743 rfl dX3_buyIn_5 (Eq.refl 8) ?_
  refine xg_aload_n dX3_buyIn_8 (Eq.refl 9) rfl ?_
  refine xg_getJ (k := 6) xcl10 h1 rfl xq_744 rfl dX3_buyIn_9 (Eq.refl 12) ?_
  refine xg_callV_J (kc := 0) (ks := 0) (st := []) (mX1_worthOf hl (xr x0 0) (xt_3_0 h0).2 (M x1 5) (hM.I h1 rfl) (M x1 6) (hM.J h1 rfl) M hM) bX1_worthOf xcl1 (xt_3_0 h0).2 rfl xq_886 rfl (by decide) rfl (by decide) dX3_buyIn_12 (Eq.refl 15) rfl (by decide) (by decide) ?_
  intro z1 M2 hz1 hM2
  refine xg_lstore_n (ls2 := [some (.ref x0), some (.ref x1), some (jv z1), none]) dX3_buyIn_15 (Eq.refl 16) (by decide) rfl ?_
  refine xg_aload_n dX3_buyIn_16 (Eq.refl 17) rfl ?_
  refine xg_getR (k := 0) xcl3 h0 rfl xq_114 rfl (xt_3_0 h0).1 dX3_buyIn_17 (Eq.refl 20) ?_
  refine xg_aload_n dX3_buyIn_20 (Eq.refl 21) rfl ?_
  refine xg_getI (k := 3) xcl10 h1 rfl xq_845 rfl dX3_buyIn_21 (Eq.refl 24) ?_
  refine xg_aload_n dX3_buyIn_24 (Eq.refl 25) rfl ?_
  refine xg_getI (k := 4) xcl10 h1 rfl xq_846 rfl dX3_buyIn_25 (Eq.refl 28) ?_
  refine xg_lconst (z := 0) dX3_buyIn_28 (Eq.refl 29) rfl ?_
  refine xg_lload_n dX3_buyIn_29 (Eq.refl 30) rfl ?_
  refine xg_aload_n dX3_buyIn_30 (Eq.refl 31) rfl ?_
  refine xg_getJ (k := 7) xcl10 h1 rfl xq_905 rfl dX3_buyIn_31 (Eq.refl 34) ?_
  refine xg_lsub dX3_buyIn_34 (Eq.refl 35) ?_
  refine xg_mmaxl xq_906 xq_692 xq_306 xq_693 dX3_buyIn_35 (Eq.refl 38) (by decide) (w64_r _) (Nat.le_of_ble_eq_true rfl) ?_
  refine xg_callV_N (kc := 0) (ks := 0) (st := []) (mX1_owe hl (xr x0 0) (xt_3_0 h0).2 (M2 x1 3) (hM2.I h1 rfl) (M2 x1 4) (hM2.I h1 rfl) (max 0 (w64 (z1 - (M2 x1 7)))) (xmax_r (by decide) (w64_r _)) M2 hM2) bX1_owe xcl1 (xt_3_0 h0).2 rfl xq_851 rfl (by decide) rfl (by decide) dX3_buyIn_38 (Eq.refl 41) rfl (by decide) (by decide) ?_
  intro z3 M4 hz3 hM4
  refine xg_aload_n dX3_buyIn_41 (Eq.refl 42) rfl ?_
  refine xg_getR (k := 0) xcl3 h0 rfl xq_114 rfl (xt_3_0 h0).1 dX3_buyIn_42 (Eq.refl 45) ?_
  refine xg_aload_n dX3_buyIn_45 (Eq.refl 46) rfl ?_
  refine xg_callV_N (kc := 0) (ks := 0) (st := []) (mX1_cancelTrade hl (xr x0 0) (xt_3_0 h0).2 x1 h1 M4 hM4) bX1_cancelTrade xcl1 (xt_3_0 h0).2 rfl xq_804 rfl (by decide) rfl (by decide) dX3_buyIn_46 (Eq.refl 49) rfl (by decide) (by decide) ?_
  intro z5 M6 hz5 hM6
  exact xg_vret rfl dX3_buyIn_49 rfl hM6
abbrev uX3_growOlder : xU := (RX3, cX3_growOlder, 3, none, [], "growOlder")
theorem bX3_growOlder : xYV yX3_growOlder cX3_growOlder 3 none 0 := ⟨xq_897, xq_898, xq_26, xq_899, ⟨by decide +kernel, by decide +kernel, by decide +kernel⟩, by decide⟩
theorem gX3_growOlder_67 {l : Launch} {G : xG} (hl : l.stackTraces = false) (rc2 : Int → xM → xO) (x0 : Nat) (h0 : xOb 3 x0) (x1 : Int) (h1 : R32 x1) (hr2 : ∀ w1 : Int, R32 w1 → ∀ M : xM, xcan M → Gv l G uX3_growOlder 5 3 0 0 2 [some (.ref x0), some (iv w1), none] [] M (rc2 w1 M)) (M : xM) (hM : xcan M) : Gv l G uX3_growOlder 5 3 0 0 67 [some (.ref x0), some (iv x1), none] [] M (fX3_growOlder_67 rc2 x0 x1 M) := by
  unfold fX3_growOlder_67
  refine xg_iinc (ls2 := [some (.ref x0), some (iv (w32 (x1 + 1))), none]) dX3_growOlder_67 (Eq.refl 70) rfl (by decide) rfl ?_
  refine xg_goto (tgt := 2) dX3_growOlder_70 (by decide) ?_
  exact xg_jump (hr2 (w32 (x1 + 1)) (w32_r _) M hM) (xsb_s (xsb_s (xsb_n xsb_0))) (by decide) (by decide)
theorem gX3_growOlder_2 {l : Launch} {G : xG} (hl : l.stackTraces = false) (x0 : Nat) (h0 : xOb 3 x0) : ∀ (n : Nat) (x1 : Int) (_ : R32 x1) (M : xM) (_ : xcan M), Gv l G uX3_growOlder 5 3 0 0 2 [some (.ref x0), some (iv x1), none] [] M (fX3_growOlder_2 x0 n x1 M) := by
  intro n; induction n with
  | zero => intro x1 h1 M hM; exact xg_none
  | succ n ih =>
    intro x1 h1 M hM
    rw [fX3_growOlder_2]
    refine xg_iload_n dX3_growOlder_2 (Eq.refl 3) rfl ?_
    refine xg_aload_n dX3_growOlder_3 (Eq.refl 4) rfl ?_
    refine xg_getR (k := 0) xcl3 h0 rfl xq_114 rfl (xt_3_0 h0).1 dX3_growOlder_4 (Eq.refl 7) ?_
    refine xg_getI (k := 12) xcl1 (xt_3_0 h0).2 rfl xq_741 rfl dX3_growOlder_7 (Eq.refl 10) ?_
    refine xg_icmp_ge (tgt := 73) dX3_growOlder_10 (Eq.refl 13) (by decide) h1 (hM.I (xt_3_0 h0).2 rfl) ?_ ?_
    · exact xg_vret rfl dX3_growOlder_73 rfl hM
    · refine xg_aload_n dX3_growOlder_13 (Eq.refl 14) rfl ?_
      refine xg_getR (k := 0) xcl3 h0 rfl xq_114 rfl (xt_3_0 h0).1 dX3_growOlder_14 (Eq.refl 17) ?_
      refine xg_iload_n dX3_growOlder_17 (Eq.refl 18) rfl ?_
      refine xg_callV_R (cr := 10) (kc := 0) (ks := 0) (st := []) (mX1_trade hl (xr x0 0) (xt_3_0 h0).2 x1 h1 M hM) bX1_trade xcl1 (xt_3_0 h0).2 rfl xq_754 rfl (by decide) rfl (by decide) dX3_growOlder_18 (Eq.refl 21) rfl (by decide) (by decide) ?_
      intro z1 M2 hz1 hM2
      refine xg_astore_n (ls2 := [some (.ref x0), some (iv x1), some (.ref z1.toNat)]) dX3_growOlder_21 (Eq.refl 22) (by decide) rfl ?_
      refine xg_aload_n dX3_growOlder_22 (Eq.refl 23) rfl ?_
      refine xg_getR (k := 0) xcl3 h0 rfl xq_114 rfl (xt_3_0 h0).1 dX3_growOlder_23 (Eq.refl 26) ?_
      refine xg_aload_n dX3_growOlder_26 (Eq.refl 27) rfl ?_
      refine xg_callV_Z (kc := 0) (ks := 0) (st := []) (mX1_isDue hl (xr x0 0) (xt_3_0 h0).2 z1.toNat hz1 M2 hM2) bX1_isDue xcl1 (xt_3_0 h0).2 rfl xq_755 rfl (by decide) rfl (by decide) dX3_growOlder_27 (Eq.refl 30) rfl (by decide) (by decide) ?_
      intro z3 M4 hz3 hM4
      refine xg_if_eq (tgt := 67) dX3_growOlder_30 (Eq.refl 33) (by decide) (B01.r hz3) ?_ ?_
      · exact xg_jump (gX3_growOlder_67 hl (fX3_growOlder_2 x0 n) x0 h0 x1 h1 ih M4 hM4) (xsb_s (xsb_s (xsb_n xsb_0))) (by decide) (by decide)
      · refine xg_aload_n dX3_growOlder_33 (Eq.refl 34) rfl ?_
        refine xg_dup dX3_growOlder_34 (Eq.refl 35) rfl ?_
        refine xg_getI (k := 11) xcl10 hz1 rfl xq_900 rfl dX3_growOlder_35 (Eq.refl 38) ?_
        refine xg_iconst dX3_growOlder_38 (Eq.refl 39) ?_
        refine xg_iadd dX3_growOlder_39 (Eq.refl 40) ?_
        refine xg_putI (k := 11) xcl10 hz1 rfl xq_900 rfl (by decide +kernel) dX3_growOlder_40 (Eq.refl 43) rfl hM4 (w32_r _) ?_
        intro M5 hM5
        refine xg_aload_n dX3_growOlder_43 (Eq.refl 44) rfl ?_
        refine xg_getI (k := 11) xcl10 hz1 rfl xq_900 rfl dX3_growOlder_44 (Eq.refl 47) ?_
        refine xg_iconst dX3_growOlder_47 (Eq.refl 48) ?_
        refine xg_icmp_ne (tgt := 67) dX3_growOlder_48 (Eq.refl 51) (by decide) (hM5.I hz1 rfl) (by decide) ?_ ?_
        · refine xg_aload_n dX3_growOlder_51 (Eq.refl 52) rfl ?_
          refine xg_getR (k := 0) xcl3 h0 rfl xq_114 rfl (xt_3_0 h0).1 dX3_growOlder_52 (Eq.refl 55) ?_
          refine xg_aload_n dX3_growOlder_55 (Eq.refl 56) rfl ?_
          refine xg_callV_Z (kc := 0) (ks := 0) (st := []) (mX1_isLacking hl (xr x0 0) (xt_3_0 h0).2 z1.toNat hz1 M5 hM5) bX1_isLacking xcl1 (xt_3_0 h0).2 rfl xq_878 rfl (by decide) rfl (by decide) dX3_growOlder_56 (Eq.refl 59) rfl (by decide) (by decide) ?_
          intro z6 M7 hz6 hM7
          refine xg_if_eq (tgt := 67) dX3_growOlder_59 (Eq.refl 62) (by decide) (B01.r hz6) ?_ ?_
          · exact xg_jump (gX3_growOlder_67 hl (fX3_growOlder_2 x0 n) x0 h0 x1 h1 ih M7 hM7) (xsb_s (xsb_s (xsb_n xsb_0))) (by decide) (by decide)
          · refine xg_aload_n dX3_growOlder_62 (Eq.refl 63) rfl ?_
            refine xg_aload_n dX3_growOlder_63 (Eq.refl 64) rfl ?_
            refine xg_callV_N (kc := 0) (ks := 0) (st := []) (mX3_buyIn hl x0 h0 z1.toNat hz1 M7 hM7) bX3_buyIn xcl3 h0 rfl xq_901 rfl (by decide) rfl (by decide) dX3_growOlder_64 (Eq.refl 67) rfl (by decide) (by decide) ?_
            intro z8 M9 hz8 hM9
            exact xg_jump (gX3_growOlder_67 hl (fX3_growOlder_2 x0 n) x0 h0 x1 h1 ih M9 hM9) (xsb_s (xsb_s (xsb_n xsb_0))) (by decide) (by decide)
        · exact xg_jump (gX3_growOlder_67 hl (fX3_growOlder_2 x0 n) x0 h0 x1 h1 ih M5 hM5) (xsb_s (xsb_s (xsb_n xsb_0))) (by decide) (by decide)
theorem mX3_growOlder {l : Launch} {G : xG} (hl : l.stackTraces = false) (x0 : Nat) (h0 : xOb 3 x0) (M : xM) (hM : xcan M) : Cm l G yX3_growOlder cX3_growOlder 3 none 5 3 0 0 [.ref x0] M (fX3_growOlder x0 M) := by
  refine xcm_of (u := uX3_growOlder) (ls := [some (.ref x0), none, none]) 2 hl rfl (by decide +kernel) (Nat.le_of_ble_eq_true rfl) rfl ?_
  unfold fX3_growOlder
  refine xg_iconst dX3_growOlder_0 (Eq.refl 1) ?_
  refine xg_istore_n (ls2 := [some (.ref x0), some (iv 0), none]) dX3_growOlder_1 (Eq.refl 2) (by decide) rfl ?_
  exact xg_jump (gX3_growOlder_2 hl x0 h0 xN 0 (by decide) M hM) (xsb_s (xsb_s (xsb_n xsb_0))) (by decide) (by decide)
abbrev uX5_isAlive : xU := (RX5, cX5_isAlive, 1, (some .boolean), [], "isAlive")
theorem bX5_isAlive : xYV yX5_isAlive cX5_isAlive 1 (some .boolean) 0 := ⟨xq_536, xq_537, xq_59, xq_538, ⟨by decide +kernel, by decide +kernel, by decide +kernel⟩, by decide⟩
theorem gX5_isAlive_15 {l : Launch} {G : xG} (hl : l.stackTraces = false) (M : xM) (hM : xcan M) : Gv l G uX5_isAlive 1 1 0 0 15 [none] [] M (fX5_isAlive_15 M) := by
  unfold fX5_isAlive_15
  refine xg_iconst dX5_isAlive_15 (Eq.refl 16) ?_
  refine xg_goto (tgt := 20) dX5_isAlive_16 (by decide) ?_
  exact xg_zret rfl dX5_isAlive_20 rfl hM (by decide)
theorem mX5_isAlive {l : Launch} {G : xG} (hl : l.stackTraces = false) (x0 : Nat) (h0 : xOb 5 x0) (M : xM) (hM : xcan M) : Cm l G yX5_isAlive cX5_isAlive 1 (some .boolean) 1 1 0 0 [.ref x0] M (fX5_isAlive x0 M) := by
  refine xcm_of (u := uX5_isAlive) (ls := [some (.ref x0)]) 0 hl rfl (by decide +kernel) (Nat.le_of_ble_eq_true rfl) rfl ?_
  unfold fX5_isAlive
  refine xg_aload_n dX5_isAlive_0 (Eq.refl 1) rfl ?_
  refine xg_getI (k := 9) xcl5 h0 rfl xq_82 rfl dX5_isAlive_1 (Eq.refl 4) ?_
  refine xg_if_eq (tgt := 15) dX5_isAlive_4 (Eq.refl 7) (by decide) (hM.I h0 rfl) ?_ ?_
  · exact xg_jump (gX5_isAlive_15 hl M hM) (xsb_n xsb_0) (by decide) (by decide)
  · refine xg_aload_n dX5_isAlive_7 (Eq.refl 8) rfl ?_
    refine xg_getI (k := 9) xcl5 h0 rfl xq_82 rfl dX5_isAlive_8 (Eq.refl 11) ?_
    refine xg_iconst dX5_isAlive_11 (Eq.refl 12) ?_
    refine xg_icmp_ne (tgt := 19) dX5_isAlive_12 (Eq.refl 15) (by decide) (hM.I h0 rfl) (by decide) ?_ ?_
    · exact xg_jump (gX5_isAlive_15 hl M hM) (xsb_n xsb_0) (by decide) (by decide)
    · refine xg_iconst dX5_isAlive_19 (Eq.refl 20) ?_
      exact xg_zret rfl dX5_isAlive_20 rfl hM (by decide)
abbrev uX11_needIndex : xU := (RX11, cX11_needIndex, 2, none, [], "needIndex")
theorem bX11_needIndex : xYS yX11_needIndex cX11_needIndex 2 none 2 := ⟨xq_146, xq_2, xq_147, ⟨by decide +kernel, by decide +kernel, by decide +kernel⟩, by decide⟩
theorem gX11_needIndex_9 {l : Launch} {G : xG} (hl : l.stackTraces = false) (M : xM) (hM : xcan M) : Gv l G uX11_needIndex 1 3 1 6 9 [none, none] [] M (fX11_needIndex_9 M) := by
  unfold fX11_needIndex_9
  exact xg_throw0 rfl rfl xq_148 xq_149 dX11_needIndex_9 dX11_needIndex_12 dX11_needIndex_13 dX11_needIndex_16 dX11_needIndex_19 (by decide) (by decide) (by decide) hM
theorem mX11_needIndex {l : Launch} {G : xG} (hl : l.stackTraces = false) (x0 : Int) (h0 : R32 x0) (x1 : Int) (h1 : R32 x1) (M : xM) (hM : xcan M) : Cm l G yX11_needIndex cX11_needIndex 2 none 1 3 1 6 [iv x0, iv x1] M (fX11_needIndex x0 x1 M) := by
  refine xcm_of (u := uX11_needIndex) (ls := [some (iv x0), some (iv x1)]) 0 hl rfl (by decide +kernel) (Nat.le_of_ble_eq_true rfl) rfl ?_
  unfold fX11_needIndex
  refine xg_iload_n dX11_needIndex_0 (Eq.refl 1) rfl ?_
  refine xg_if_lt (tgt := 9) dX11_needIndex_1 (Eq.refl 4) (by decide) h0 ?_ ?_
  · exact xg_jump (gX11_needIndex_9 hl M hM) (xsb_n (xsb_n xsb_0)) (by decide) (by decide)
  · refine xg_iload_n dX11_needIndex_4 (Eq.refl 5) rfl ?_
    refine xg_iload_n dX11_needIndex_5 (Eq.refl 6) rfl ?_
    refine xg_icmp_lt (tgt := 20) dX11_needIndex_6 (Eq.refl 9) (by decide) h0 h1 ?_ ?_
    · exact xg_vret rfl dX11_needIndex_20 rfl hM
    · exact xg_jump (gX11_needIndex_9 hl M hM) (xsb_n (xsb_n xsb_0)) (by decide) (by decide)
abbrev uX11_needAccount : xU := (RX11, cX11_needAccount, 2, none, [], "needAccount")
theorem bX11_needAccount : xYV yX11_needAccount cX11_needAccount 2 none 1 := ⟨xq_142, xq_143, xq_2, xq_144, ⟨by decide +kernel, by decide +kernel, by decide +kernel⟩, by decide⟩
theorem mX11_needAccount {l : Launch} {G : xG} (hl : l.stackTraces = false) (x0 : Nat) (h0 : xOb 11 x0) (x1 : Int) (h1 : R32 x1) (M : xM) (hM : xcan M) : Cm l G yX11_needAccount cX11_needAccount 2 none 2 3 1 6 [.ref x0, iv x1] M (fX11_needAccount x0 x1 M) := by
  refine xcm_of (u := uX11_needAccount) (ls := [some (.ref x0), some (iv x1)]) 0 hl rfl (by decide +kernel) (Nat.le_of_ble_eq_true rfl) rfl ?_
  unfold fX11_needAccount
  refine xg_iload_n dX11_needAccount_0 (Eq.refl 1) rfl ?_
  refine xg_aload_n dX11_needAccount_1 (Eq.refl 2) rfl ?_
  refine xg_getR (k := 1) xcl11 h0 rfl xq_18 rfl (xt_11_1 h0).1 dX11_needAccount_2 (Eq.refl 5) ?_
  refine xg_getI (k := 9) xcl1 (xt_11_1 h0).2 rfl xq_136 rfl dX11_needAccount_5 (Eq.refl 8) ?_
  refine xg_callS_N (kc := 0) (ks := 0) (st := []) (mX11_needIndex hl x1 h1 (M (xr x0 1) 9) (hM.I (xt_11_1 h0).2 rfl) M hM) bX11_needIndex xq_145 rfl (by decide) rfl (by decide) dX11_needAccount_8 (Eq.refl 11) rfl (by decide) (by decide) ?_
  intro z1 M2 hz1 hM2
  exact xg_vret rfl dX11_needAccount_11 rfl hM2
abbrev uX11_needArgument : xU := (RX11, cX11_needArgument, 1, none, [], "needArgument")
theorem bX11_needArgument : xYS yX11_needArgument cX11_needArgument 1 none 1 := ⟨xq_154, xq_2, xq_155, ⟨by decide +kernel, by decide +kernel, by decide +kernel⟩, by decide⟩
theorem mX11_needArgument {l : Launch} {G : xG} (hl : l.stackTraces = false) (x0 : Int) (h0 : B01 x0) (M : xM) (hM : xcan M) : Cm l G yX11_needArgument cX11_needArgument 1 none 1 3 1 6 [iv x0] M (fX11_needArgument x0 M) := by
  refine xcm_of (u := uX11_needArgument) (ls := [some (iv x0)]) 0 hl rfl (by decide +kernel) (Nat.le_of_ble_eq_true rfl) rfl ?_
  unfold fX11_needArgument
  refine xg_iload_n dX11_needArgument_0 (Eq.refl 1) rfl ?_
  refine xg_if_ne (tgt := 15) dX11_needArgument_1 (Eq.refl 4) (by decide) (B01.r h0) ?_ ?_
  · exact xg_throw1 rfl rfl xq_156 xq_157 dX11_needArgument_4 dX11_needArgument_7 dX11_needArgument_8 dX11_needArgument_11 dX11_needArgument_14 (by decide) (by decide) (by decide) hM
  · exact xg_vret rfl dX11_needArgument_15 rfl hM
abbrev uX11_needRange : xU := (RX11, cX11_needRange, 3, none, [], "needRange")
theorem bX11_needRange : xYS yX11_needRange cX11_needRange 3 none 3 := ⟨xq_151, xq_2, xq_152, ⟨by decide +kernel, by decide +kernel, by decide +kernel⟩, by decide⟩
theorem gX11_needRange_15 {l : Launch} {G : xG} (hl : l.stackTraces = false) (s0 : Int) (hs0 : B01 s0) (M : xM) (hM : xcan M) : Gv l G uX11_needRange 2 3 1 6 15 [none, none, none] [iv s0] M (fX11_needRange_15 s0 M) := by
  unfold fX11_needRange_15
  refine xg_callS_N (kc := 0) (ks := 0) (st := []) (mX11_needArgument hl s0 hs0 M hM) bX11_needArgument xq_153 rfl (by decide) rfl (by decide) dX11_needRange_15 (Eq.refl 18) rfl (by decide) (by decide) ?_
  intro z1 M2 hz1 hM2
  exact xg_vret rfl dX11_needRange_18 rfl hM2
theorem gX11_needRange_14 {l : Launch} {G : xG} (hl : l.stackTraces = false) (M : xM) (hM : xcan M) : Gv l G uX11_needRange 2 3 1 6 14 [none, none, none] [] M (fX11_needRange_14 M) := by
  unfold fX11_needRange_14
  refine xg_iconst dX11_needRange_14 (Eq.refl 15) ?_
  exact xg_jump (gX11_needRange_15 hl 0 (by decide) M hM) (xsb_n (xsb_n (xsb_n xsb_0))) (by decide) (by decide)
theorem mX11_needRange {l : Launch} {G : xG} (hl : l.stackTraces = false) (x0 : Int) (h0 : R32 x0) (x1 : Int) (h1 : R32 x1) (x2 : Int) (h2 : R32 x2) (M : xM) (hM : xcan M) : Cm l G yX11_needRange cX11_needRange 3 none 2 3 1 6 [iv x0, iv x1, iv x2] M (fX11_needRange x0 x1 x2 M) := by
  refine xcm_of (u := uX11_needRange) (ls := [some (iv x0), some (iv x1), some (iv x2)]) 0 hl rfl (by decide +kernel) (Nat.le_of_ble_eq_true rfl) rfl ?_
  unfold fX11_needRange
  refine xg_iload_n dX11_needRange_0 (Eq.refl 1) rfl ?_
  refine xg_iload_n dX11_needRange_1 (Eq.refl 2) rfl ?_
  refine xg_icmp_lt (tgt := 14) dX11_needRange_2 (Eq.refl 5) (by decide) h0 h1 ?_ ?_
  · exact xg_jump (gX11_needRange_14 hl M hM) (xsb_n (xsb_n (xsb_n xsb_0))) (by decide) (by decide)
  · refine xg_iload_n dX11_needRange_5 (Eq.refl 6) rfl ?_
    refine xg_iload_n dX11_needRange_6 (Eq.refl 7) rfl ?_
    refine xg_icmp_gt (tgt := 14) dX11_needRange_7 (Eq.refl 10) (by decide) h0 h2 ?_ ?_
    · exact xg_jump (gX11_needRange_14 hl M hM) (xsb_n (xsb_n (xsb_n xsb_0))) (by decide) (by decide)
    · refine xg_iconst dX11_needRange_10 (Eq.refl 11) ?_
      refine xg_goto (tgt := 15) dX11_needRange_11 (by decide) ?_
      exact xg_jump (gX11_needRange_15 hl 1 (by decide) M hM) (xsb_n (xsb_n (xsb_n xsb_0))) (by decide) (by decide)
abbrev uX11_needState : xU := (RX11, cX11_needState, 1, none, [], "needState")
theorem bX11_needState : xYS yX11_needState cX11_needState 1 none 1 := ⟨xq_163, xq_2, xq_164, ⟨by decide +kernel, by decide +kernel, by decide +kernel⟩, by decide⟩
theorem mX11_needState {l : Launch} {G : xG} (hl : l.stackTraces = false) (x0 : Int) (h0 : B01 x0) (M : xM) (hM : xcan M) : Cm l G yX11_needState cX11_needState 1 none 1 3 1 6 [iv x0] M (fX11_needState x0 M) := by
  refine xcm_of (u := uX11_needState) (ls := [some (iv x0)]) 0 hl rfl (by decide +kernel) (Nat.le_of_ble_eq_true rfl) rfl ?_
  unfold fX11_needState
  refine xg_iload_n dX11_needState_0 (Eq.refl 1) rfl ?_
  refine xg_if_ne (tgt := 15) dX11_needState_1 (Eq.refl 4) (by decide) (B01.r h0) ?_ ?_
  · exact xg_throw2 rfl rfl xq_165 xq_166 dX11_needState_4 dX11_needState_7 dX11_needState_8 dX11_needState_11 dX11_needState_14 (by decide) (by decide) (by decide) hM
  · exact xg_vret rfl dX11_needState_15 rfl hM
abbrev uX11_open : xU := (RX11, cX11_open, 8, (some .int), [], "open")
theorem bX11_open : xYV yX11_open cX11_open 8 (some .int) 5 := ⟨xq_131, xq_132, xq_2, xq_133, ⟨by decide +kernel, by decide +kernel, by decide +kernel⟩, by decide⟩
theorem gX11_open_122 {l : Launch} {G : xG} (hl : l.stackTraces = false) (x0 : Nat) (h0 : xOb 11 x0) (x3 : Int) (h3 : R32 x3) (x4 : Int) (h4 : R32 x4) (x5 : Int) (h5 : R32 x5) (x6 : Int) (h6 : R32 x6) (x7 : Nat) (h7 : xOb 0 x7) (s0 : Int) (hs0 : B01 s0) (s1 : Nat) (hs1 : xOb 0 s1) (M : xM) (hM : xcan M) : Gv l G uX11_open 3 0 0 0 122 [some (.ref x0), none, none, some (iv x3), some (iv x4), some (iv x5), some (iv x6), some (.ref x7)] [iv s0, .ref s1] M (fX11_open_122 x0 x3 x4 x5 x6 x7 s0 s1 M) := by
  unfold fX11_open_122
  refine xg_putZ (k := 2) xcl0 hs1 rfl xq_137 rfl (by decide +kernel) dX11_open_122 (Eq.refl 125) rfl hM hs0 ?_
  intro M1 hM1
  refine xg_aload dX11_open_125 (Eq.refl 127) rfl ?_
  refine xg_iload_n dX11_open_127 (Eq.refl 128) rfl ?_
  refine xg_putI (k := 0) xcl0 h7 rfl xq_138 rfl (by decide +kernel) dX11_open_128 (Eq.refl 131) rfl hM1 h3 ?_
  intro M2 hM2
  refine xg_aload dX11_open_131 (Eq.refl 133) rfl ?_
  refine xg_iload dX11_open_133 (Eq.refl 135) rfl ?_
  refine xg_i2l dX11_open_135 (Eq.refl 136) h4 ?_
  refine xg_putJ (k := 5) xcl0 h7 rfl xq_139 rfl (by decide +kernel) dX11_open_136 (Eq.refl 139) rfl hM2 (R32.j h4) ?_
  intro M3 hM3
  refine xg_aload dX11_open_139 (Eq.refl 141) rfl ?_
  refine xg_iload dX11_open_141 (Eq.refl 143) rfl ?_
  refine xg_i2l dX11_open_143 (Eq.refl 144) h5 ?_
  refine xg_putJ (k := 7) xcl0 h7 rfl xq_140 rfl (by decide +kernel) dX11_open_144 (Eq.refl 147) rfl hM3 (R32.j h5) ?_
  intro M4 hM4
  refine xg_aload_n dX11_open_147 (Eq.refl 148) rfl ?_
  refine xg_getR (k := 1) xcl11 h0 rfl xq_18 rfl (xt_11_1 h0).1 dX11_open_148 (Eq.refl 151) ?_
  refine xg_iload dX11_open_151 (Eq.refl 153) rfl ?_
  refine xg_iconst dX11_open_153 (Eq.refl 154) ?_
  refine xg_iadd dX11_open_154 (Eq.refl 155) ?_
  refine xg_putI (k := 9) xcl1 (xt_11_1 h0).2 rfl xq_136 rfl (by decide +kernel) dX11_open_155 (Eq.refl 158) rfl hM4 (w32_r _) ?_
  intro M5 hM5
  refine xg_iload dX11_open_158 (Eq.refl 160) rfl ?_
  exact xg_iret rfl dX11_open_160 rfl hM5 h6
theorem gX11_open_121 {l : Launch} {G : xG} (hl : l.stackTraces = false) (x0 : Nat) (h0 : xOb 11 x0) (x3 : Int) (h3 : R32 x3) (x4 : Int) (h4 : R32 x4) (x5 : Int) (h5 : R32 x5) (x6 : Int) (h6 : R32 x6) (x7 : Nat) (h7 : xOb 0 x7) (s0 : Nat) (hs0 : xOb 0 s0) (M : xM) (hM : xcan M) : Gv l G uX11_open 3 0 0 0 121 [some (.ref x0), none, none, some (iv x3), some (iv x4), some (iv x5), some (iv x6), some (.ref x7)] [.ref s0] M (fX11_open_121 x0 x3 x4 x5 x6 x7 s0 M) := by
  unfold fX11_open_121
  refine xg_iconst dX11_open_121 (Eq.refl 122) ?_
  exact xg_jump (gX11_open_122 hl x0 h0 x3 h3 x4 h4 x5 h5 x6 h6 x7 h7 0 (by decide) s0 hs0 M hM) (xsb_s (xsb_n (xsb_n (xsb_s (xsb_s (xsb_s (xsb_s (xsb_s xsb_0)))))))) (by decide) (by decide)
theorem gX11_open_77 {l : Launch} {G : xG} (hl : l.stackTraces = false) (x0 : Nat) (h0 : xOb 11 x0) (x1 : Int) (h1 : R32 x1) (x2 : Int) (h2 : B01 x2) (x3 : Int) (h3 : R32 x3) (x4 : Int) (h4 : R32 x4) (x5 : Int) (h5 : R32 x5) (s0 : Int) (hs0 : B01 s0) (M : xM) (hM : xcan M) : Gv l G uX11_open 3 0 1 6 77 [some (.ref x0), some (iv x1), some (iv x2), some (iv x3), some (iv x4), some (iv x5), none, none] [iv s0] M (fX11_open_77 x0 x1 x2 x3 x4 x5 s0 M) := by
  unfold fX11_open_77
  refine xg_callS_N (kc := 0) (ks := 0) (st := []) (mX11_needState hl s0 hs0 M hM) bX11_needState xq_162 rfl (by decide) rfl (by decide) dX11_open_77 (Eq.refl 80) rfl (by decide) (by decide) ?_
  intro z1 M2 hz1 hM2
  refine xg_aload_n dX11_open_80 (Eq.refl 81) rfl ?_
  refine xg_getR (k := 1) xcl11 h0 rfl xq_18 rfl (xt_11_1 h0).1 dX11_open_81 (Eq.refl 84) ?_
  refine xg_getI (k := 9) xcl1 (xt_11_1 h0).2 rfl xq_136 rfl dX11_open_84 (Eq.refl 87) ?_
  refine xg_istore (ls2 := [some (.ref x0), some (iv x1), some (iv x2), some (iv x3), some (iv x4), some (iv x5), some (iv (M2 (xr x0 1) 9)), none]) dX11_open_87 (Eq.refl 89) (by decide) rfl ?_
  refine xg_aload_n dX11_open_89 (Eq.refl 90) rfl ?_
  refine xg_getR (k := 1) xcl11 h0 rfl xq_18 rfl (xt_11_1 h0).1 dX11_open_90 (Eq.refl 93) ?_
  refine xg_iload dX11_open_93 (Eq.refl 95) rfl ?_
  refine xg_callV_R (cr := 0) (kc := 0) (ks := 0) (st := []) (mX1_account hl (xr x0 1) (xt_11_1 h0).2 (M2 (xr x0 1) 9) (hM2.I (xt_11_1 h0).2 rfl) M2 hM2) bX1_account xcl1 (xt_11_1 h0).2 rfl xq_158 rfl (by decide) rfl (by decide) dX11_open_95 (Eq.refl 98) rfl (by decide) (by decide) ?_
  intro z3 M4 hz3 hM4
  refine xg_astore (ls2 := [some (.ref x0), some (iv x1), some (iv x2), some (iv x3), some (iv x4), some (iv x5), some (iv (M2 (xr x0 1) 9)), some (.ref z3.toNat)]) dX11_open_98 (Eq.refl 100) (by decide) rfl ?_
  refine xg_aload dX11_open_100 (Eq.refl 102) rfl ?_
  refine xg_iload_n dX11_open_102 (Eq.refl 103) rfl ?_
  refine xg_putI (k := 1) xcl0 hz3 rfl xq_135 rfl (by decide +kernel) dX11_open_103 (Eq.refl 106) rfl hM4 h1 ?_
  intro M5 hM5
  refine xg_aload dX11_open_106 (Eq.refl 108) rfl ?_
  refine xg_iload_n dX11_open_108 (Eq.refl 109) rfl ?_
  refine xg_if_eq (tgt := 121) dX11_open_109 (Eq.refl 112) (by decide) (B01.r h2) ?_ ?_
  · exact xg_jump (gX11_open_121 hl x0 h0 x3 h3 x4 h4 x5 h5 (M2 (xr x0 1) 9) (hM2.I (xt_11_1 h0).2 rfl) z3.toNat hz3 z3.toNat hz3 M5 hM5) (xsb_s (xsb_n (xsb_n (xsb_s (xsb_s (xsb_s (xsb_s (xsb_s xsb_0)))))))) (by decide) (by decide)
  · refine xg_iload_n dX11_open_112 (Eq.refl 113) rfl ?_
    refine xg_iconst dX11_open_113 (Eq.refl 114) ?_
    refine xg_icmp_eq (tgt := 121) dX11_open_114 (Eq.refl 117) (by decide) h1 (by decide) ?_ ?_
    · exact xg_jump (gX11_open_121 hl x0 h0 x3 h3 x4 h4 x5 h5 (M2 (xr x0 1) 9) (hM2.I (xt_11_1 h0).2 rfl) z3.toNat hz3 z3.toNat hz3 M5 hM5) (xsb_s (xsb_n (xsb_n (xsb_s (xsb_s (xsb_s (xsb_s (xsb_s xsb_0)))))))) (by decide) (by decide)
    · refine xg_iconst dX11_open_117 (Eq.refl 118) ?_
      refine xg_goto (tgt := 122) dX11_open_118 (by decide) ?_
      exact xg_jump (gX11_open_122 hl x0 h0 x3 h3 x4 h4 x5 h5 (M2 (xr x0 1) 9) (hM2.I (xt_11_1 h0).2 rfl) z3.toNat hz3 1 (by decide) z3.toNat hz3 M5 hM5) (xsb_s (xsb_n (xsb_n (xsb_s (xsb_s (xsb_s (xsb_s (xsb_s xsb_0)))))))) (by decide) (by decide)
theorem gX11_open_57 {l : Launch} {G : xG} (hl : l.stackTraces = false) (x0 : Nat) (h0 : xOb 11 x0) (x1 : Int) (h1 : R32 x1) (x2 : Int) (h2 : B01 x2) (x3 : Int) (h3 : R32 x3) (x4 : Int) (h4 : R32 x4) (x5 : Int) (h5 : R32 x5) (s0 : Int) (hs0 : B01 s0) (M : xM) (hM : xcan M) : Gv l G uX11_open 3 0 2 12 57 [some (.ref x0), some (iv x1), some (iv x2), some (iv x3), some (iv x4), some (iv x5), none, none] [iv s0] M (fX11_open_57 x0 x1 x2 x3 x4 x5 s0 M) := by
  unfold fX11_open_57
  refine xg_callS_N (kc := 1) (ks := 6) (st := []) (mX11_needState hl s0 hs0 M hM) bX11_needState xq_162 rfl (by decide) rfl (by decide) dX11_open_57 (Eq.refl 60) rfl (by decide) (by decide) ?_
  intro z1 M2 hz1 hM2
  refine xg_aload_n dX11_open_60 (Eq.refl 61) rfl ?_
  refine xg_getR (k := 1) xcl11 h0 rfl xq_18 rfl (xt_11_1 h0).1 dX11_open_61 (Eq.refl 64) ?_
  refine xg_getI (k := 9) xcl1 (xt_11_1 h0).2 rfl xq_136 rfl dX11_open_64 (Eq.refl 67) ?_
  refine xg_bipush dX11_open_67 (Eq.refl 69) (by decide +kernel) ?_
  refine xg_icmp_ge (tgt := 76) dX11_open_69 (Eq.refl 72) (by decide) (hM2.I (xt_11_1 h0).2 rfl) (by decide) ?_ ?_
  · refine xg_iconst dX11_open_76 (Eq.refl 77) ?_
    exact xg_jump (gX11_open_77 hl x0 h0 x1 h1 x2 h2 x3 h3 x4 h4 x5 h5 0 (by decide) M2 hM2) (xsb_s (xsb_s (xsb_s (xsb_s (xsb_s (xsb_s (xsb_n (xsb_n xsb_0)))))))) (by decide) (by decide)
  · refine xg_iconst dX11_open_72 (Eq.refl 73) ?_
    refine xg_goto (tgt := 77) dX11_open_73 (by decide) ?_
    exact xg_jump (gX11_open_77 hl x0 h0 x1 h1 x2 h2 x3 h3 x4 h4 x5 h5 1 (by decide) M2 hM2) (xsb_s (xsb_s (xsb_s (xsb_s (xsb_s (xsb_s (xsb_n (xsb_n xsb_0)))))))) (by decide) (by decide)
theorem gX11_open_52 {l : Launch} {G : xG} (hl : l.stackTraces = false) (x0 : Nat) (h0 : xOb 11 x0) (x1 : Int) (h1 : R32 x1) (x2 : Int) (h2 : B01 x2) (x3 : Int) (h3 : R32 x3) (x4 : Int) (h4 : R32 x4) (x5 : Int) (h5 : R32 x5) (M : xM) (hM : xcan M) : Gv l G uX11_open 3 0 2 12 52 [some (.ref x0), some (iv x1), some (iv x2), some (iv x3), some (iv x4), some (iv x5), none, none] [] M (fX11_open_52 x0 x1 x2 x3 x4 x5 M) := by
  unfold fX11_open_52
  refine xg_iconst dX11_open_52 (Eq.refl 53) ?_
  refine xg_goto (tgt := 57) dX11_open_53 (by decide) ?_
  exact xg_jump (gX11_open_57 hl x0 h0 x1 h1 x2 h2 x3 h3 x4 h4 x5 h5 1 (by decide) M hM) (xsb_s (xsb_s (xsb_s (xsb_s (xsb_s (xsb_s (xsb_n (xsb_n xsb_0)))))))) (by decide) (by decide)
theorem gX11_open_10 {l : Launch} {G : xG} (hl : l.stackTraces = false) (x0 : Nat) (h0 : xOb 11 x0) (x1 : Int) (h1 : R32 x1) (x2 : Int) (h2 : B01 x2) (x3 : Int) (h3 : R32 x3) (x4 : Int) (h4 : R32 x4) (x5 : Int) (h5 : R32 x5) (M : xM) (hM : xcan M) : Gv l G uX11_open 3 0 5 30 10 [some (.ref x0), some (iv x1), some (iv x2), some (iv x3), some (iv x4), some (iv x5), none, none] [] M (fX11_open_10 x0 x1 x2 x3 x4 x5 M) := by
  unfold fX11_open_10
  refine xg_iload_n dX11_open_10 (Eq.refl 11) rfl ?_
  refine xg_iconst dX11_open_11 (Eq.refl 12) ?_
  refine xg_iconst dX11_open_12 (Eq.refl 13) ?_
  refine xg_callS_N (kc := 4) (ks := 24) (st := []) (mX11_needRange hl x3 h3 0 (by decide) 2 (by decide) M hM) bX11_needRange xq_150 rfl (by decide) rfl (by decide) dX11_open_13 (Eq.refl 16) rfl (by decide) (by decide) ?_
  intro z1 M2 hz1 hM2
  refine xg_iload dX11_open_16 (Eq.refl 18) rfl ?_
  refine xg_iconst dX11_open_18 (Eq.refl 19) ?_
  refine xg_ldc (z := 1000000) xq_134 dX11_open_19 (Eq.refl 21) (by decide +kernel) ?_
  refine xg_callS_N (kc := 3) (ks := 18) (st := []) (mX11_needRange hl x4 h4 0 (by decide) 1000000 (by decide) M2 hM2) bX11_needRange xq_150 rfl (by decide) rfl (by decide) dX11_open_21 (Eq.refl 24) rfl (by decide) (by decide) ?_
  intro z3 M4 hz3 hM4
  refine xg_iload dX11_open_24 (Eq.refl 26) rfl ?_
  refine xg_iconst dX11_open_26 (Eq.refl 27) ?_
  refine xg_ldc (z := 1000000) xq_134 dX11_open_27 (Eq.refl 29) (by decide +kernel) ?_
  refine xg_callS_N (kc := 2) (ks := 12) (st := []) (mX11_needRange hl x5 h5 0 (by decide) 1000000 (by decide) M4 hM4) bX11_needRange xq_150 rfl (by decide) rfl (by decide) dX11_open_29 (Eq.refl 32) rfl (by decide) (by decide) ?_
  intro z5 M6 hz5 hM6
  refine xg_iload_n dX11_open_32 (Eq.refl 33) rfl ?_
  refine xg_iconst dX11_open_33 (Eq.refl 34) ?_
  refine xg_icmp_eq (tgt := 52) dX11_open_34 (Eq.refl 37) (by decide) h1 (by decide) ?_ ?_
  · exact xg_jump (gX11_open_52 hl x0 h0 x1 h1 x2 h2 x3 h3 x4 h4 x5 h5 M6 hM6) (xsb_s (xsb_s (xsb_s (xsb_s (xsb_s (xsb_s (xsb_n (xsb_n xsb_0)))))))) (by decide) (by decide)
  · refine xg_aload_n dX11_open_37 (Eq.refl 38) rfl ?_
    refine xg_getR (k := 1) xcl11 h0 rfl xq_18 rfl (xt_11_1 h0).1 dX11_open_38 (Eq.refl 41) ?_
    refine xg_iload_n dX11_open_41 (Eq.refl 42) rfl ?_
    refine xg_callV_R (cr := 0) (kc := 2) (ks := 12) (st := []) (mX1_account hl (xr x0 1) (xt_11_1 h0).2 x1 h1 M6 hM6) bX1_account xcl1 (xt_11_1 h0).2 rfl xq_158 rfl (by decide) rfl (by decide) dX11_open_42 (Eq.refl 45) rfl (by decide) (by decide) ?_
    intro z7 M8 hz7 hM8
    refine xg_getI (k := 1) xcl0 hz7 rfl xq_135 rfl dX11_open_45 (Eq.refl 48) ?_
    refine xg_iconst dX11_open_48 (Eq.refl 49) ?_
    refine xg_icmp_ne (tgt := 56) dX11_open_49 (Eq.refl 52) (by decide) (hM8.I hz7 rfl) (by decide) ?_ ?_
    · exact xg_jump (gX11_open_52 hl x0 h0 x1 h1 x2 h2 x3 h3 x4 h4 x5 h5 M8 hM8) (xsb_s (xsb_s (xsb_s (xsb_s (xsb_s (xsb_s (xsb_n (xsb_n xsb_0)))))))) (by decide) (by decide)
    · refine xg_iconst dX11_open_56 (Eq.refl 57) ?_
      exact xg_jump (gX11_open_57 hl x0 h0 x1 h1 x2 h2 x3 h3 x4 h4 x5 h5 0 (by decide) M8 hM8) (xsb_s (xsb_s (xsb_s (xsb_s (xsb_s (xsb_s (xsb_n (xsb_n xsb_0)))))))) (by decide) (by decide)
theorem mX11_open {l : Launch} {G : xG} (hl : l.stackTraces = false) (x0 : Nat) (h0 : xOb 11 x0) (x1 : Int) (h1 : R32 x1) (x2 : Int) (h2 : B01 x2) (x3 : Int) (h3 : R32 x3) (x4 : Int) (h4 : R32 x4) (x5 : Int) (h5 : R32 x5) (M : xM) (hM : xcan M) : Cm l G yX11_open cX11_open 8 (some .int) 3 0 6 36 [.ref x0, iv x1, iv x2, iv x3, iv x4, iv x5] M (fX11_open x0 x1 x2 x3 x4 x5 M) := by
  refine xcm_of (u := uX11_open) (ls := [some (.ref x0), some (iv x1), some (iv x2), some (iv x3), some (iv x4), some (iv x5), none, none]) 2 hl rfl (by decide +kernel) (Nat.le_of_ble_eq_true rfl) rfl ?_
  unfold fX11_open
  refine xg_iload_n dX11_open_0 (Eq.refl 1) rfl ?_
  refine xg_iconst dX11_open_1 (Eq.refl 2) ?_
  refine xg_icmp_eq (tgt := 10) dX11_open_2 (Eq.refl 5) (by decide) h1 (by decide) ?_ ?_
  · exact xg_jump (gX11_open_10 hl x0 h0 x1 h1 x2 h2 x3 h3 x4 h4 x5 h5 M hM) (xsb_s (xsb_s (xsb_s (xsb_s (xsb_s (xsb_s (xsb_n (xsb_n xsb_0)))))))) (by decide) (by decide)
  · refine xg_aload_n dX11_open_5 (Eq.refl 6) rfl ?_
    refine xg_iload_n dX11_open_6 (Eq.refl 7) rfl ?_
    refine xg_callV_N (kc := 5) (ks := 30) (st := []) (mX11_needAccount hl x0 h0 x1 h1 M hM) bX11_needAccount xcl11 h0 rfl xq_141 rfl (by decide) rfl (by decide) dX11_open_7 (Eq.refl 10) rfl (by decide) (by decide) ?_
    intro z1 M2 hz1 hM2
    exact xg_jump (gX11_open_10 hl x0 h0 x1 h1 x2 h2 x3 h3 x4 h4 x5 h5 M2 hM2) (xsb_s (xsb_s (xsb_s (xsb_s (xsb_s (xsb_s (xsb_n (xsb_n xsb_0)))))))) (by decide) (by decide)
abbrev uX11_lend : xU := (RX11, cX11_lend, 3, (some .boolean), [], "lend")
theorem bX11_lend : xYV yX11_lend cX11_lend 3 (some .boolean) 1 := ⟨xq_168, xq_169, xq_2, xq_170, ⟨by decide +kernel, by decide +kernel, by decide +kernel⟩, by decide⟩
theorem gX11_lend_27 {l : Launch} {G : xG} (hl : l.stackTraces = false) (x2 : Nat) (h2 : xOb 0 x2) (s0 : Int) (hs0 : B01 s0) (s1 : Nat) (hs1 : xOb 0 s1) (M : xM) (hM : xcan M) : Gv l G uX11_lend 3 1 0 0 27 [none, none, some (.ref x2)] [iv s0, .ref s1] M (fX11_lend_27 x2 s0 s1 M) := by
  unfold fX11_lend_27
  refine xg_putZ (k := 3) xcl0 hs1 rfl xq_171 rfl (by decide +kernel) dX11_lend_27 (Eq.refl 30) rfl hM hs0 ?_
  intro M1 hM1
  refine xg_aload_n dX11_lend_30 (Eq.refl 31) rfl ?_
  refine xg_getZ (k := 3) xcl0 h2 rfl xq_171 rfl dX11_lend_31 (Eq.refl 34) hM1 ?_
  exact xg_zret rfl dX11_lend_34 rfl hM1 (hM1.Z h2 rfl)
theorem mX11_lend {l : Launch} {G : xG} (hl : l.stackTraces = false) (x0 : Nat) (h0 : xOb 11 x0) (x1 : Int) (h1 : R32 x1) (M : xM) (hM : xcan M) : Cm l G yX11_lend cX11_lend 3 (some .boolean) 3 1 1 6 [.ref x0, iv x1] M (fX11_lend x0 x1 M) := by
  refine xcm_of (u := uX11_lend) (ls := [some (.ref x0), some (iv x1), none]) 1 hl rfl (by decide +kernel) (Nat.le_of_ble_eq_true rfl) rfl ?_
  unfold fX11_lend
  refine xg_aload_n dX11_lend_0 (Eq.refl 1) rfl ?_
  refine xg_iload_n dX11_lend_1 (Eq.refl 2) rfl ?_
  refine xg_callV_N (kc := 0) (ks := 0) (st := []) (mX11_needAccount hl x0 h0 x1 h1 M hM) bX11_needAccount xcl11 h0 rfl xq_141 rfl (by decide) rfl (by decide) dX11_lend_2 (Eq.refl 5) rfl (by decide) (by decide) ?_
  intro z1 M2 hz1 hM2
  refine xg_aload_n dX11_lend_5 (Eq.refl 6) rfl ?_
  refine xg_getR (k := 1) xcl11 h0 rfl xq_18 rfl (xt_11_1 h0).1 dX11_lend_6 (Eq.refl 9) ?_
  refine xg_iload_n dX11_lend_9 (Eq.refl 10) rfl ?_
  refine xg_callV_R (cr := 0) (kc := 0) (ks := 0) (st := []) (mX1_account hl (xr x0 1) (xt_11_1 h0).2 x1 h1 M2 hM2) bX1_account xcl1 (xt_11_1 h0).2 rfl xq_158 rfl (by decide) rfl (by decide) dX11_lend_10 (Eq.refl 13) rfl (by decide) (by decide) ?_
  intro z3 M4 hz3 hM4
  refine xg_astore_n (ls2 := [some (.ref x0), some (iv x1), some (.ref z3.toNat)]) dX11_lend_13 (Eq.refl 14) (by decide) rfl ?_
  refine xg_aload_n dX11_lend_14 (Eq.refl 15) rfl ?_
  refine xg_aload_n dX11_lend_15 (Eq.refl 16) rfl ?_
  refine xg_getZ (k := 3) xcl0 hz3 rfl xq_171 rfl dX11_lend_16 (Eq.refl 19) hM4 ?_
  refine xg_if_ne (tgt := 26) dX11_lend_19 (Eq.refl 22) (by decide) (B01.r (hM4.Z hz3 rfl)) ?_ ?_
  · refine xg_iconst dX11_lend_22 (Eq.refl 23) ?_
    refine xg_goto (tgt := 27) dX11_lend_23 (by decide) ?_
    exact xg_jump (gX11_lend_27 hl z3.toNat hz3 1 (by decide) z3.toNat hz3 M4 hM4) (xsb_n (xsb_n (xsb_s xsb_0))) (by decide) (by decide)
  · refine xg_iconst dX11_lend_26 (Eq.refl 27) ?_
    exact xg_jump (gX11_lend_27 hl z3.toNat hz3 0 (by decide) z3.toNat hz3 M4 hM4) (xsb_n (xsb_n (xsb_s xsb_0))) (by decide) (by decide)
abbrev uX11_issue : xU := (RX11, cX11_issue, 8, (some .int), [], "issue")
theorem bX11_issue : xYV yX11_issue cX11_issue 8 (some .int) 5 := ⟨xq_176, xq_177, xq_2, xq_178, ⟨by decide +kernel, by decide +kernel, by decide +kernel⟩, by decide⟩
theorem gX11_issue_52 {l : Launch} {G : xG} (hl : l.stackTraces = false) (x0 : Nat) (h0 : xOb 11 x0) (x1 : Int) (h1 : R32 x1) (x2 : Int) (h2 : R32 x2) (x3 : Int) (h3 : R32 x3) (x4 : Int) (h4 : R32 x4) (x5 : Int) (h5 : R32 x5) (s0 : Int) (hs0 : B01 s0) (M : xM) (hM : xcan M) : Gv l G uX11_issue 3 0 1 6 52 [some (.ref x0), some (iv x1), some (iv x2), some (iv x3), some (iv x4), some (iv x5), none, none] [iv s0] M (fX11_issue_52 x0 x1 x2 x3 x4 x5 s0 M) := by
  unfold fX11_issue_52
  refine xg_callS_N (kc := 0) (ks := 0) (st := []) (mX11_needState hl s0 hs0 M hM) bX11_needState xq_162 rfl (by decide) rfl (by decide) dX11_issue_52 (Eq.refl 55) rfl (by decide) (by decide) ?_
  intro z1 M2 hz1 hM2
  refine xg_aload_n dX11_issue_55 (Eq.refl 56) rfl ?_
  refine xg_getR (k := 1) xcl11 h0 rfl xq_18 rfl (xt_11_1 h0).1 dX11_issue_56 (Eq.refl 59) ?_
  refine xg_getI (k := 10) xcl1 (xt_11_1 h0).2 rfl xq_180 rfl dX11_issue_59 (Eq.refl 62) ?_
  refine xg_istore (ls2 := [some (.ref x0), some (iv x1), some (iv x2), some (iv x3), some (iv x4), some (iv x5), some (iv (M2 (xr x0 1) 10)), none]) dX11_issue_62 (Eq.refl 64) (by decide) rfl ?_
  refine xg_aload_n dX11_issue_64 (Eq.refl 65) rfl ?_
  refine xg_getR (k := 1) xcl11 h0 rfl xq_18 rfl (xt_11_1 h0).1 dX11_issue_65 (Eq.refl 68) ?_
  refine xg_iload dX11_issue_68 (Eq.refl 70) rfl ?_
  refine xg_callV_R (cr := 9) (kc := 0) (ks := 0) (st := []) (mX1_security hl (xr x0 1) (xt_11_1 h0).2 (M2 (xr x0 1) 10) (hM2.I (xt_11_1 h0).2 rfl) M2 hM2) bX1_security xcl1 (xt_11_1 h0).2 rfl xq_186 rfl (by decide) rfl (by decide) dX11_issue_70 (Eq.refl 73) rfl (by decide) (by decide) ?_
  intro z3 M4 hz3 hM4
  refine xg_astore (ls2 := [some (.ref x0), some (iv x1), some (iv x2), some (iv x3), some (iv x4), some (iv x5), some (iv (M2 (xr x0 1) 10)), some (.ref z3.toNat)]) dX11_issue_73 (Eq.refl 75) (by decide) rfl ?_
  refine xg_aload dX11_issue_75 (Eq.refl 77) rfl ?_
  refine xg_iload_n dX11_issue_77 (Eq.refl 78) rfl ?_
  refine xg_putI (k := 0) xcl9 hz3 rfl xq_181 rfl (by decide +kernel) dX11_issue_78 (Eq.refl 81) rfl hM4 h2 ?_
  intro M5 hM5
  refine xg_aload dX11_issue_81 (Eq.refl 83) rfl ?_
  refine xg_iload dX11_issue_83 (Eq.refl 85) rfl ?_
  refine xg_putI (k := 1) xcl9 hz3 rfl xq_182 rfl (by decide +kernel) dX11_issue_85 (Eq.refl 88) rfl hM5 h4 ?_
  intro M6 hM6
  refine xg_aload dX11_issue_88 (Eq.refl 90) rfl ?_
  refine xg_iload dX11_issue_90 (Eq.refl 92) rfl ?_
  refine xg_putI (k := 2) xcl9 hz3 rfl xq_183 rfl (by decide +kernel) dX11_issue_92 (Eq.refl 95) rfl hM6 h5 ?_
  intro M7 hM7
  refine xg_aload dX11_issue_95 (Eq.refl 97) rfl ?_
  refine xg_iload_n dX11_issue_97 (Eq.refl 98) rfl ?_
  refine xg_i2l dX11_issue_98 (Eq.refl 99) h3 ?_
  refine xg_putJ (k := 3) xcl9 hz3 rfl xq_184 rfl (by decide +kernel) dX11_issue_99 (Eq.refl 102) rfl hM7 (R32.j h3) ?_
  intro M8 hM8
  refine xg_aload_n dX11_issue_102 (Eq.refl 103) rfl ?_
  refine xg_getR (k := 1) xcl11 h0 rfl xq_18 rfl (xt_11_1 h0).1 dX11_issue_103 (Eq.refl 106) ?_
  refine xg_iload dX11_issue_106 (Eq.refl 108) rfl ?_
  refine xg_iconst dX11_issue_108 (Eq.refl 109) ?_
  refine xg_iadd dX11_issue_109 (Eq.refl 110) ?_
  refine xg_putI (k := 10) xcl1 (xt_11_1 h0).2 rfl xq_180 rfl (by decide +kernel) dX11_issue_110 (Eq.refl 113) rfl hM8 (w32_r _) ?_
  intro M9 hM9
  refine xg_aload_n dX11_issue_113 (Eq.refl 114) rfl ?_
  refine xg_getR (k := 1) xcl11 h0 rfl xq_18 rfl (xt_11_1 h0).1 dX11_issue_114 (Eq.refl 117) ?_
  refine xg_iload_n dX11_issue_117 (Eq.refl 118) rfl ?_
  refine xg_callV_R (cr := 0) (kc := 0) (ks := 0) (st := []) (mX1_account hl (xr x0 1) (xt_11_1 h0).2 x1 h1 M9 hM9) bX1_account xcl1 (xt_11_1 h0).2 rfl xq_158 rfl (by decide) rfl (by decide) dX11_issue_118 (Eq.refl 121) rfl (by decide) (by decide) ?_
  intro z10 M11 hz10 hM11
  refine xg_iload dX11_issue_121 (Eq.refl 123) rfl ?_
  refine xg_iload_n dX11_issue_123 (Eq.refl 124) rfl ?_
  refine xg_i2l dX11_issue_124 (Eq.refl 125) h3 ?_
  refine xg_aload_n dX11_issue_125 (Eq.refl 126) rfl ?_
  refine xg_getR (k := 1) xcl11 h0 rfl xq_18 rfl (xt_11_1 h0).1 dX11_issue_126 (Eq.refl 129) ?_
  refine xg_getI (k := 17) xcl1 (xt_11_1 h0).2 rfl xq_185 rfl dX11_issue_129 (Eq.refl 132) ?_
  refine xg_callV_N (kc := 0) (ks := 0) (st := []) (mX0_move hl z10.toNat hz10 (M2 (xr x0 1) 10) (hM2.I (xt_11_1 h0).2 rfl) x3 (R32.j h3) (M11 (xr x0 1) 17) (hM11.I (xt_11_1 h0).2 rfl) M11 hM11) bX0_move xcl0 hz10 rfl xq_190 rfl (by decide) rfl (by decide) dX11_issue_132 (Eq.refl 135) rfl (by decide) (by decide) ?_
  intro z12 M13 hz12 hM13
  refine xg_iload dX11_issue_135 (Eq.refl 137) rfl ?_
  exact xg_iret rfl dX11_issue_137 rfl hM13 (hM2.I (xt_11_1 h0).2 rfl)
theorem mX11_issue {l : Launch} {G : xG} (hl : l.stackTraces = false) (x0 : Nat) (h0 : xOb 11 x0) (x1 : Int) (h1 : R32 x1) (x2 : Int) (h2 : R32 x2) (x3 : Int) (h3 : R32 x3) (x4 : Int) (h4 : R32 x4) (x5 : Int) (h5 : R32 x5) (M : xM) (hM : xcan M) : Cm l G yX11_issue cX11_issue 8 (some .int) 3 0 6 36 [.ref x0, iv x1, iv x2, iv x3, iv x4, iv x5] M (fX11_issue x0 x1 x2 x3 x4 x5 M) := by
  refine xcm_of (u := uX11_issue) (ls := [some (.ref x0), some (iv x1), some (iv x2), some (iv x3), some (iv x4), some (iv x5), none, none]) 2 hl rfl (by decide +kernel) (Nat.le_of_ble_eq_true rfl) rfl ?_
  unfold fX11_issue
  refine xg_aload_n dX11_issue_0 (Eq.refl 1) rfl ?_
  refine xg_iload_n dX11_issue_1 (Eq.refl 2) rfl ?_
  refine xg_callV_N (kc := 5) (ks := 30) (st := []) (mX11_needAccount hl x0 h0 x1 h1 M hM) bX11_needAccount xcl11 h0 rfl xq_141 rfl (by decide) rfl (by decide) dX11_issue_2 (Eq.refl 5) rfl (by decide) (by decide) ?_
  intro z1 M2 hz1 hM2
  refine xg_iload_n dX11_issue_5 (Eq.refl 6) rfl ?_
  refine xg_iconst dX11_issue_6 (Eq.refl 7) ?_
  refine xg_iconst dX11_issue_7 (Eq.refl 8) ?_
  refine xg_callS_N (kc := 4) (ks := 24) (st := []) (mX11_needRange hl x2 h2 0 (by decide) 2 (by decide) M2 hM2) bX11_needRange xq_150 rfl (by decide) rfl (by decide) dX11_issue_8 (Eq.refl 11) rfl (by decide) (by decide) ?_
  intro z3 M4 hz3 hM4
  refine xg_iload_n dX11_issue_11 (Eq.refl 12) rfl ?_
  refine xg_iconst dX11_issue_12 (Eq.refl 13) ?_
  refine xg_ldc (z := 100000) xq_179 dX11_issue_13 (Eq.refl 15) (by decide +kernel) ?_
  refine xg_callS_N (kc := 3) (ks := 18) (st := []) (mX11_needRange hl x3 h3 1 (by decide) 100000 (by decide) M4 hM4) bX11_needRange xq_150 rfl (by decide) rfl (by decide) dX11_issue_15 (Eq.refl 18) rfl (by decide) (by decide) ?_
  intro z5 M6 hz5 hM6
  refine xg_iload dX11_issue_18 (Eq.refl 20) rfl ?_
  refine xg_iconst dX11_issue_20 (Eq.refl 21) ?_
  refine xg_sipush dX11_issue_21 (Eq.refl 24) (by decide +kernel) ?_
  refine xg_callS_N (kc := 2) (ks := 12) (st := []) (mX11_needRange hl x4 h4 1 (by decide) 1000 (by decide) M6 hM6) bX11_needRange xq_150 rfl (by decide) rfl (by decide) dX11_issue_24 (Eq.refl 27) rfl (by decide) (by decide) ?_
  intro z7 M8 hz7 hM8
  refine xg_iload dX11_issue_27 (Eq.refl 29) rfl ?_
  refine xg_iconst dX11_issue_29 (Eq.refl 30) ?_
  refine xg_sipush dX11_issue_30 (Eq.refl 33) (by decide +kernel) ?_
  refine xg_callS_N (kc := 1) (ks := 6) (st := []) (mX11_needRange hl x5 h5 0 (by decide) 500 (by decide) M8 hM8) bX11_needRange xq_150 rfl (by decide) rfl (by decide) dX11_issue_33 (Eq.refl 36) rfl (by decide) (by decide) ?_
  intro z9 M10 hz9 hM10
  refine xg_aload_n dX11_issue_36 (Eq.refl 37) rfl ?_
  refine xg_getR (k := 1) xcl11 h0 rfl xq_18 rfl (xt_11_1 h0).1 dX11_issue_37 (Eq.refl 40) ?_
  refine xg_getI (k := 10) xcl1 (xt_11_1 h0).2 rfl xq_180 rfl dX11_issue_40 (Eq.refl 43) ?_
  refine xg_iconst dX11_issue_43 (Eq.refl 44) ?_
  refine xg_icmp_ge (tgt := 51) dX11_issue_44 (Eq.refl 47) (by decide) (hM10.I (xt_11_1 h0).2 rfl) (by decide) ?_ ?_
  · refine xg_iconst dX11_issue_51 (Eq.refl 52) ?_
    exact xg_jump (gX11_issue_52 hl x0 h0 x1 h1 x2 h2 x3 h3 x4 h4 x5 h5 0 (by decide) M10 hM10) (xsb_s (xsb_s (xsb_s (xsb_s (xsb_s (xsb_s (xsb_n (xsb_n xsb_0)))))))) (by decide) (by decide)
  · refine xg_iconst dX11_issue_47 (Eq.refl 48) ?_
    refine xg_goto (tgt := 52) dX11_issue_48 (by decide) ?_
    exact xg_jump (gX11_issue_52 hl x0 h0 x1 h1 x2 h2 x3 h3 x4 h4 x5 h5 1 (by decide) M10 hM10) (xsb_s (xsb_s (xsb_s (xsb_s (xsb_s (xsb_s (xsb_n (xsb_n xsb_0)))))))) (by decide) (by decide)
abbrev uX11_needSecurity : xU := (RX11, cX11_needSecurity, 2, none, [], "needSecurity")
theorem bX11_needSecurity : xYV yX11_needSecurity cX11_needSecurity 2 none 1 := ⟨xq_222, xq_223, xq_2, xq_224, ⟨by decide +kernel, by decide +kernel, by decide +kernel⟩, by decide⟩
theorem mX11_needSecurity {l : Launch} {G : xG} (hl : l.stackTraces = false) (x0 : Nat) (h0 : xOb 11 x0) (x1 : Int) (h1 : R32 x1) (M : xM) (hM : xcan M) : Cm l G yX11_needSecurity cX11_needSecurity 2 none 2 3 1 6 [.ref x0, iv x1] M (fX11_needSecurity x0 x1 M) := by
  refine xcm_of (u := uX11_needSecurity) (ls := [some (.ref x0), some (iv x1)]) 0 hl rfl (by decide +kernel) (Nat.le_of_ble_eq_true rfl) rfl ?_
  unfold fX11_needSecurity
  refine xg_iload_n dX11_needSecurity_0 (Eq.refl 1) rfl ?_
  refine xg_aload_n dX11_needSecurity_1 (Eq.refl 2) rfl ?_
  refine xg_getR (k := 1) xcl11 h0 rfl xq_18 rfl (xt_11_1 h0).1 dX11_needSecurity_2 (Eq.refl 5) ?_
  refine xg_getI (k := 10) xcl1 (xt_11_1 h0).2 rfl xq_180 rfl dX11_needSecurity_5 (Eq.refl 8) ?_
  refine xg_callS_N (kc := 0) (ks := 0) (st := []) (mX11_needIndex hl x1 h1 (M (xr x0 1) 10) (hM.I (xt_11_1 h0).2 rfl) M hM) bX11_needIndex xq_145 rfl (by decide) rfl (by decide) dX11_needSecurity_8 (Eq.refl 11) rfl (by decide) (by decide) ?_
  intro z1 M2 hz1 hM2
  exact xg_vret rfl dX11_needSecurity_11 rfl hM2
abbrev uX11_setPrice : xU := (RX11, cX11_setPrice, 5, (some .int), [], "setPrice")
theorem bX11_setPrice : xYV yX11_setPrice cX11_setPrice 5 (some .int) 2 := ⟨xq_624, xq_625, xq_2, xq_626, ⟨by decide +kernel, by decide +kernel, by decide +kernel⟩, by decide⟩
theorem mX11_setPrice {l : Launch} {G : xG} (hl : l.stackTraces = false) (x0 : Nat) (h0 : xOb 11 x0) (x1 : Int) (h1 : R32 x1) (x2 : Int) (h2 : R32 x2) (M : xM) (hM : xcan M) : Cm l G yX11_setPrice cX11_setPrice 5 (some .int) 3 0 2 12 [.ref x0, iv x1, iv x2] M (fX11_setPrice x0 x1 x2 M) := by
  refine xcm_of (u := uX11_setPrice) (ls := [some (.ref x0), some (iv x1), some (iv x2), none, none]) 2 hl rfl (by decide +kernel) (Nat.le_of_ble_eq_true rfl) rfl ?_
  unfold fX11_setPrice
  refine xg_aload_n dX11_setPrice_0 (Eq.refl 1) rfl ?_
  refine xg_iload_n dX11_setPrice_1 (Eq.refl 2) rfl ?_
  refine xg_callV_N (kc := 1) (ks := 6) (st := []) (mX11_needSecurity hl x0 h0 x1 h1 M hM) bX11_needSecurity xcl11 h0 rfl xq_221 rfl (by decide) rfl (by decide) dX11_setPrice_2 (Eq.refl 5) rfl (by decide) (by decide) ?_
  intro z1 M2 hz1 hM2
  refine xg_iload_n dX11_setPrice_5 (Eq.refl 6) rfl ?_
  refine xg_iconst dX11_setPrice_6 (Eq.refl 7) ?_
  refine xg_sipush dX11_setPrice_7 (Eq.refl 10) (by decide +kernel) ?_
  refine xg_callS_N (kc := 0) (ks := 0) (st := []) (mX11_needRange hl x2 h2 1 (by decide) 1000 (by decide) M2 hM2) bX11_needRange xq_150 rfl (by decide) rfl (by decide) dX11_setPrice_10 (Eq.refl 13) rfl (by decide) (by decide) ?_
  intro z3 M4 hz3 hM4
  refine xg_aload_n dX11_setPrice_13 (Eq.refl 14) rfl ?_
  refine xg_getR (k := 1) xcl11 h0 rfl xq_18 rfl (xt_11_1 h0).1 dX11_setPrice_14 (Eq.refl 17) ?_
  refine xg_iload_n dX11_setPrice_17 (Eq.refl 18) rfl ?_
  refine xg_callV_R (cr := 9) (kc := 0) (ks := 0) (st := []) (mX1_security hl (xr x0 1) (xt_11_1 h0).2 x1 h1 M4 hM4) bX1_security xcl1 (xt_11_1 h0).2 rfl xq_186 rfl (by decide) rfl (by decide) dX11_setPrice_18 (Eq.refl 21) rfl (by decide) (by decide) ?_
  intro z5 M6 hz5 hM6
  refine xg_astore_n (ls2 := [some (.ref x0), some (iv x1), some (iv x2), some (.ref z5.toNat), none]) dX11_setPrice_21 (Eq.refl 22) (by decide) rfl ?_
  refine xg_aload_n dX11_setPrice_22 (Eq.refl 23) rfl ?_
  refine xg_getI (k := 1) xcl9 hz5 rfl xq_182 rfl dX11_setPrice_23 (Eq.refl 26) ?_
  refine xg_istore (ls2 := [some (.ref x0), some (iv x1), some (iv x2), some (.ref z5.toNat), some (iv (M6 z5.toNat 1))]) dX11_setPrice_26 (Eq.refl 28) (by decide) rfl ?_
  refine xg_aload_n dX11_setPrice_28 (Eq.refl 29) rfl ?_
  refine xg_iload_n dX11_setPrice_29 (Eq.refl 30) rfl ?_
  refine xg_putI (k := 1) xcl9 hz5 rfl xq_182 rfl (by decide +kernel) dX11_setPrice_30 (Eq.refl 33) rfl hM6 h2 ?_
  intro M7 hM7
  refine xg_iload dX11_setPrice_33 (Eq.refl 35) rfl ?_
  exact xg_iret rfl dX11_setPrice_35 rfl hM7 (hM6.I hz5 rfl)
abbrev uX11_block : xU := (RX11, cX11_block, 7, (some .long), [], "block")
theorem bX11_block : xYV yX11_block cX11_block 7 (some .long) 3 := ⟨xq_514, xq_515, xq_2, xq_516, ⟨by decide +kernel, by decide +kernel, by decide +kernel⟩, by decide⟩
theorem gX11_block_49 {l : Launch} {G : xG} (hl : l.stackTraces = false) (x2 : Int) (h2 : R32 x2) (x3 : Int) (h3 : R32 x3) (x4 : Nat) (h4 : xOb 0 x4) (s0 : Int) (hs0 : B01 s0) (M : xM) (hM : xcan M) : Gv l G uX11_block 3 2 1 6 49 [none, none, some (iv x2), some (iv x3), some (.ref x4), none, none] [iv s0] M (fX11_block_49 x2 x3 x4 s0 M) := by
  unfold fX11_block_49
  refine xg_callS_N (kc := 0) (ks := 0) (st := []) (mX11_needState hl s0 hs0 M hM) bX11_needState xq_162 rfl (by decide) rfl (by decide) dX11_block_49 (Eq.refl 52) rfl (by decide) (by decide) ?_
  intro z1 M2 hz1 hM2
  refine xg_aload dX11_block_52 (Eq.refl 54) rfl ?_
  refine xg_iload_n dX11_block_54 (Eq.refl 55) rfl ?_
  refine xg_callV_J (kc := 0) (ks := 0) (st := []) (mX0_blockedOf hl x4 h4 x2 h2 M2 hM2) bX0_blockedOf xcl0 h4 rfl xq_517 rfl (by decide) rfl (by decide) dX11_block_55 (Eq.refl 58) rfl (by decide) (by decide) ?_
  intro z3 M4 hz3 hM4
  refine xg_lstore (ls2 := [none, none, some (iv x2), some (iv x3), some (.ref x4), some (jv z3), none]) dX11_block_58 (Eq.refl 60) (by decide) rfl ?_
  refine xg_aload dX11_block_60 (Eq.refl 62) rfl ?_
  refine xg_iload_n dX11_block_62 (Eq.refl 63) rfl ?_
  refine xg_iload_n dX11_block_63 (Eq.refl 64) rfl ?_
  refine xg_i2l dX11_block_64 (Eq.refl 65) h3 ?_
  refine xg_callV_N (kc := 0) (ks := 0) (st := []) (mX0_setBlocked hl x4 h4 x2 h2 x3 (R32.j h3) M4 hM4) bX0_setBlocked xcl0 h4 rfl xq_521 rfl (by decide) rfl (by decide) dX11_block_65 (Eq.refl 68) rfl (by decide) (by decide) ?_
  intro z5 M6 hz5 hM6
  refine xg_lload dX11_block_68 (Eq.refl 70) rfl ?_
  exact xg_lret rfl dX11_block_70 rfl hM6 hz3
theorem gX11_block_19 {l : Launch} {G : xG} (hl : l.stackTraces = false) (x0 : Nat) (h0 : xOb 11 x0) (x1 : Int) (h1 : R32 x1) (x2 : Int) (h2 : R32 x2) (x3 : Int) (h3 : R32 x3) (s0 : Int) (hs0 : B01 s0) (M : xM) (hM : xcan M) : Gv l G uX11_block 3 2 2 12 19 [some (.ref x0), some (iv x1), some (iv x2), some (iv x3), none, none, none] [iv s0] M (fX11_block_19 x0 x1 x2 x3 s0 M) := by
  unfold fX11_block_19
  refine xg_callS_N (kc := 1) (ks := 6) (st := []) (mX11_needArgument hl s0 hs0 M hM) bX11_needArgument xq_153 rfl (by decide) rfl (by decide) dX11_block_19 (Eq.refl 22) rfl (by decide) (by decide) ?_
  intro z1 M2 hz1 hM2
  refine xg_aload_n dX11_block_22 (Eq.refl 23) rfl ?_
  refine xg_getR (k := 1) xcl11 h0 rfl xq_18 rfl (xt_11_1 h0).1 dX11_block_23 (Eq.refl 26) ?_
  refine xg_iload_n dX11_block_26 (Eq.refl 27) rfl ?_
  refine xg_callV_R (cr := 0) (kc := 1) (ks := 6) (st := []) (mX1_account hl (xr x0 1) (xt_11_1 h0).2 x1 h1 M2 hM2) bX1_account xcl1 (xt_11_1 h0).2 rfl xq_158 rfl (by decide) rfl (by decide) dX11_block_27 (Eq.refl 30) rfl (by decide) (by decide) ?_
  intro z3 M4 hz3 hM4
  refine xg_astore (ls2 := [some (.ref x0), some (iv x1), some (iv x2), some (iv x3), some (.ref z3.toNat), none, none]) dX11_block_30 (Eq.refl 32) (by decide) rfl ?_
  refine xg_iload_n dX11_block_32 (Eq.refl 33) rfl ?_
  refine xg_i2l dX11_block_33 (Eq.refl 34) h3 ?_
  refine xg_aload dX11_block_34 (Eq.refl 36) rfl ?_
  refine xg_iload_n dX11_block_36 (Eq.refl 37) rfl ?_
  refine xg_callV_J (kc := 1) (ks := 6) (st := [jv x3]) (mX0_heldOf hl z3.toNat hz3 x2 h2 M4 hM4) bX0_heldOf xcl0 hz3 rfl xq_225 rfl (by decide) rfl (Nat.le_of_ble_eq_true rfl) dX11_block_37 (Eq.refl 40) rfl (by decide) (by decide) ?_
  intro z5 M6 hz5 hM6
  refine xg_lif_gt (tgt := 48) dX11_block_40 (Eq.refl 41) dX11_block_41 (Eq.refl 44) (by decide) (R32.j h3) hz5 ?_ ?_
  · refine xg_iconst dX11_block_48 (Eq.refl 49) ?_
    exact xg_jump (gX11_block_49 hl x2 h2 x3 h3 z3.toNat hz3 0 (by decide) M6 hM6) (xsb_n (xsb_n (xsb_s (xsb_s (xsb_s (xsb_n (xsb_n xsb_0))))))) (by decide) (by decide)
  · refine xg_iconst dX11_block_44 (Eq.refl 45) ?_
    refine xg_goto (tgt := 49) dX11_block_45 (by decide) ?_
    exact xg_jump (gX11_block_49 hl x2 h2 x3 h3 z3.toNat hz3 1 (by decide) M6 hM6) (xsb_n (xsb_n (xsb_s (xsb_s (xsb_s (xsb_n (xsb_n xsb_0))))))) (by decide) (by decide)
theorem mX11_block {l : Launch} {G : xG} (hl : l.stackTraces = false) (x0 : Nat) (h0 : xOb 11 x0) (x1 : Int) (h1 : R32 x1) (x2 : Int) (h2 : R32 x2) (x3 : Int) (h3 : R32 x3) (M : xM) (hM : xcan M) : Cm l G yX11_block cX11_block 7 (some .long) 3 2 4 24 [.ref x0, iv x1, iv x2, iv x3] M (fX11_block x0 x1 x2 x3 M) := by
  refine xcm_of (u := uX11_block) (ls := [some (.ref x0), some (iv x1), some (iv x2), some (iv x3), none, none, none]) 3 hl rfl (by decide +kernel) (Nat.le_of_ble_eq_true rfl) rfl ?_
  unfold fX11_block
  refine xg_aload_n dX11_block_0 (Eq.refl 1) rfl ?_
  refine xg_iload_n dX11_block_1 (Eq.refl 2) rfl ?_
  refine xg_callV_N (kc := 3) (ks := 18) (st := []) (mX11_needAccount hl x0 h0 x1 h1 M hM) bX11_needAccount xcl11 h0 rfl xq_141 rfl (by decide) rfl (by decide) dX11_block_2 (Eq.refl 5) rfl (by decide) (by decide) ?_
  intro z1 M2 hz1 hM2
  refine xg_aload_n dX11_block_5 (Eq.refl 6) rfl ?_
  refine xg_iload_n dX11_block_6 (Eq.refl 7) rfl ?_
  refine xg_callV_N (kc := 2) (ks := 12) (st := []) (mX11_needSecurity hl x0 h0 x2 h2 M2 hM2) bX11_needSecurity xcl11 h0 rfl xq_221 rfl (by decide) rfl (by decide) dX11_block_7 (Eq.refl 10) rfl (by decide) (by decide) ?_
  intro z3 M4 hz3 hM4
  refine xg_iload_n dX11_block_10 (Eq.refl 11) rfl ?_
  refine xg_if_lt (tgt := 18) dX11_block_11 (Eq.refl 14) (by decide) h3 ?_ ?_
  · refine xg_iconst dX11_block_18 (Eq.refl 19) ?_
    exact xg_jump (gX11_block_19 hl x0 h0 x1 h1 x2 h2 x3 h3 0 (by decide) M4 hM4) (xsb_s (xsb_s (xsb_s (xsb_s (xsb_n (xsb_n (xsb_n xsb_0))))))) (by decide) (by decide)
  · refine xg_iconst dX11_block_14 (Eq.refl 15) ?_
    refine xg_goto (tgt := 19) dX11_block_15 (by decide) ?_
    exact xg_jump (gX11_block_19 hl x0 h0 x1 h1 x2 h2 x3 h3 1 (by decide) M4 hM4) (xsb_s (xsb_s (xsb_s (xsb_s (xsb_n (xsb_n (xsb_n xsb_0))))))) (by decide) (by decide)
abbrev uX11_instruct : xU := (RX11, cX11_instruct, 13, (some .int), [], "instruct")
theorem bX11_instruct : xYV yX11_instruct cX11_instruct 13 (some .int) 9 := ⟨xq_434, xq_435, xq_2, xq_436, ⟨by decide +kernel, by decide +kernel, by decide +kernel⟩, by decide⟩
theorem gX11_instruct_212 {l : Launch} {G : xG} (hl : l.stackTraces = false) (x0 : Nat) (h0 : xOb 11 x0) (x10 : Int) (h10 : R32 x10) (x12 : Int) (h12 : R32 x12) (s0 : Int) (hs0 : B01 s0) (M : xM) (hM : xcan M) : Gv l G uX11_instruct 4 0 1 6 212 [some (.ref x0), none, none, none, none, none, none, none, none, none, some (iv x10), none, some (iv x12)] [iv s0] M (fX11_instruct_212 x0 x10 x12 s0 M) := by
  unfold fX11_instruct_212
  refine xg_callS_N (kc := 0) (ks := 0) (st := []) (mX11_needState hl s0 hs0 M hM) bX11_needState xq_162 rfl (by decide) rfl (by decide) dX11_instruct_212 (Eq.refl 215) rfl (by decide) (by decide) ?_
  intro z1 M2 hz1 hM2
  refine xg_aload_n dX11_instruct_215 (Eq.refl 216) rfl ?_
  refine xg_getR (k := 1) xcl11 h0 rfl xq_18 rfl (xt_11_1 h0).1 dX11_instruct_216 (Eq.refl 219) ?_
  refine xg_iload dX11_instruct_219 (Eq.refl 221) rfl ?_
  refine xg_iconst dX11_instruct_221 (Eq.refl 222) ?_
  refine xg_iadd dX11_instruct_222 (Eq.refl 223) ?_
  refine xg_putI (k := 11) xcl1 (xt_11_1 h0).2 rfl xq_246 rfl (by decide +kernel) dX11_instruct_223 (Eq.refl 226) rfl hM2 (w32_r _) ?_
  intro M3 hM3
  refine xg_iload dX11_instruct_226 (Eq.refl 228) rfl ?_
  refine xg_iconst dX11_instruct_228 (Eq.refl 229) ?_
  refine xg_icmp_eq (tgt := 244) dX11_instruct_229 (Eq.refl 232) (by decide) h12 (by decide) ?_ ?_
  · refine xg_iload dX11_instruct_244 (Eq.refl 246) rfl ?_
    exact xg_iret rfl dX11_instruct_246 rfl hM3 h10
  · refine xg_aload_n dX11_instruct_232 (Eq.refl 233) rfl ?_
    refine xg_getR (k := 1) xcl11 h0 rfl xq_18 rfl (xt_11_1 h0).1 dX11_instruct_233 (Eq.refl 236) ?_
    refine xg_iload dX11_instruct_236 (Eq.refl 238) rfl ?_
    refine xg_iload dX11_instruct_238 (Eq.refl 240) rfl ?_
    refine xg_callV_I (kc := 0) (ks := 0) (st := []) (mX1_match hl (xr x0 1) (xt_11_1 h0).2 x10 h10 x12 h12 M3 hM3) bX1_match xcl1 (xt_11_1 h0).2 rfl xq_468 rfl (by decide) rfl (by decide) dX11_instruct_240 (Eq.refl 243) rfl (by decide) (by decide) ?_
    intro z4 M5 hz4 hM5
    refine xg_pop dX11_instruct_243 (Eq.refl 244) rfl ?_
    refine xg_iload dX11_instruct_244 (Eq.refl 246) rfl ?_
    exact xg_iret rfl dX11_instruct_246 rfl hM5 h10
theorem gX11_instruct_207 {l : Launch} {G : xG} (hl : l.stackTraces = false) (x0 : Nat) (h0 : xOb 11 x0) (x10 : Int) (h10 : R32 x10) (x12 : Int) (h12 : R32 x12) (M : xM) (hM : xcan M) : Gv l G uX11_instruct 4 0 1 6 207 [some (.ref x0), none, none, none, none, none, none, none, none, none, some (iv x10), none, some (iv x12)] [] M (fX11_instruct_207 x0 x10 x12 M) := by
  unfold fX11_instruct_207
  refine xg_iconst dX11_instruct_207 (Eq.refl 208) ?_
  refine xg_goto (tgt := 212) dX11_instruct_208 (by decide) ?_
  exact xg_jump (gX11_instruct_212 hl x0 h0 x10 h10 x12 h12 1 (by decide) M hM) (xsb_s (xsb_n (xsb_n (xsb_n (xsb_n (xsb_n (xsb_n (xsb_n (xsb_n (xsb_n (xsb_s (xsb_n (xsb_s xsb_0))))))))))))) (by decide) (by decide)
theorem gX11_instruct_93 {l : Launch} {G : xG} (hl : l.stackTraces = false) (x0 : Nat) (h0 : xOb 11 x0) (x1 : Int) (h1 : R32 x1) (x2 : Int) (h2 : R32 x2) (x3 : Int) (h3 : B01 x3) (x4 : Int) (h4 : R32 x4) (x5 : Int) (h5 : R32 x5) (x6 : Int) (h6 : R32 x6) (x7 : Int) (h7 : R32 x7) (x8 : Int) (h8 : R32 x8) (x9 : Int) (h9 : R32 x9) (s0 : Int) (hs0 : B01 s0) (M : xM) (hM : xcan M) : Gv l G uX11_instruct 4 0 2 12 93 [some (.ref x0), some (iv x1), some (iv x2), some (iv x3), some (iv x4), some (iv x5), some (iv x6), some (iv x7), some (iv x8), some (iv x9), none, none, none] [iv s0] M (fX11_instruct_93 x0 x1 x2 x3 x4 x5 x6 x7 x8 x9 s0 M) := by
  unfold fX11_instruct_93
  refine xg_callS_N (kc := 1) (ks := 6) (st := []) (mX11_needState hl s0 hs0 M hM) bX11_needState xq_162 rfl (by decide) rfl (by decide) dX11_instruct_93 (Eq.refl 96) rfl (by decide) (by decide) ?_
  intro z1 M2 hz1 hM2
  refine xg_aload_n dX11_instruct_96 (Eq.refl 97) rfl ?_
  refine xg_getR (k := 1) xcl11 h0 rfl xq_18 rfl (xt_11_1 h0).1 dX11_instruct_97 (Eq.refl 100) ?_
  refine xg_getI (k := 11) xcl1 (xt_11_1 h0).2 rfl xq_246 rfl dX11_instruct_100 (Eq.refl 103) ?_
  refine xg_istore (ls2 := [some (.ref x0), some (iv x1), some (iv x2), some (iv x3), some (iv x4), some (iv x5), some (iv x6), some (iv x7), some (iv x8), some (iv x9), some (iv (M2 (xr x0 1) 11)), none, none]) dX11_instruct_103 (Eq.refl 105) (by decide) rfl ?_
  refine xg_aload_n dX11_instruct_105 (Eq.refl 106) rfl ?_
  refine xg_getR (k := 1) xcl11 h0 rfl xq_18 rfl (xt_11_1 h0).1 dX11_instruct_106 (Eq.refl 109) ?_
  refine xg_iload dX11_instruct_109 (Eq.refl 111) rfl ?_
  refine xg_callV_R (cr := 5) (kc := 1) (ks := 6) (st := []) (mX1_instruction hl (xr x0 1) (xt_11_1 h0).2 (M2 (xr x0 1) 11) (hM2.I (xt_11_1 h0).2 rfl) M2 hM2) bX1_instruction xcl1 (xt_11_1 h0).2 rfl xq_247 rfl (by decide) rfl (by decide) dX11_instruct_111 (Eq.refl 114) rfl (by decide) (by decide) ?_
  intro z3 M4 hz3 hM4
  refine xg_astore (ls2 := [some (.ref x0), some (iv x1), some (iv x2), some (iv x3), some (iv x4), some (iv x5), some (iv x6), some (iv x7), some (iv x8), some (iv x9), some (iv (M2 (xr x0 1) 11)), some (.ref z3.toNat), none]) dX11_instruct_114 (Eq.refl 116) (by decide) rfl ?_
  refine xg_aload dX11_instruct_116 (Eq.refl 118) rfl ?_
  refine xg_iload_n dX11_instruct_118 (Eq.refl 119) rfl ?_
  refine xg_putI (k := 0) xcl5 hz3 rfl xq_438 rfl (by decide +kernel) dX11_instruct_119 (Eq.refl 122) rfl hM4 h1 ?_
  intro M5 hM5
  refine xg_aload dX11_instruct_122 (Eq.refl 124) rfl ?_
  refine xg_iload_n dX11_instruct_124 (Eq.refl 125) rfl ?_
  refine xg_putI (k := 1) xcl5 hz3 rfl xq_439 rfl (by decide +kernel) dX11_instruct_125 (Eq.refl 128) rfl hM5 h2 ?_
  intro M6 hM6
  refine xg_aload dX11_instruct_128 (Eq.refl 130) rfl ?_
  refine xg_iload_n dX11_instruct_130 (Eq.refl 131) rfl ?_
  refine xg_putZ (k := 2) xcl5 hz3 rfl xq_440 rfl (by decide +kernel) dX11_instruct_131 (Eq.refl 134) rfl hM6 h3 ?_
  intro M7 hM7
  refine xg_aload dX11_instruct_134 (Eq.refl 136) rfl ?_
  refine xg_iload dX11_instruct_136 (Eq.refl 138) rfl ?_
  refine xg_putI (k := 3) xcl5 hz3 rfl xq_441 rfl (by decide +kernel) dX11_instruct_138 (Eq.refl 141) rfl hM7 h4 ?_
  intro M8 hM8
  refine xg_aload dX11_instruct_141 (Eq.refl 143) rfl ?_
  refine xg_iload dX11_instruct_143 (Eq.refl 145) rfl ?_
  refine xg_putI (k := 4) xcl5 hz3 rfl xq_442 rfl (by decide +kernel) dX11_instruct_145 (Eq.refl 148) rfl hM8 h5 ?_
  intro M9 hM9
  refine xg_aload dX11_instruct_148 (Eq.refl 150) rfl ?_
  refine xg_iload dX11_instruct_150 (Eq.refl 152) rfl ?_
  refine xg_putI (k := 5) xcl5 hz3 rfl xq_443 rfl (by decide +kernel) dX11_instruct_152 (Eq.refl 155) rfl hM9 h6 ?_
  intro M10 hM10
  refine xg_aload dX11_instruct_155 (Eq.refl 157) rfl ?_
  refine xg_iload dX11_instruct_157 (Eq.refl 159) rfl ?_
  refine xg_putI (k := 6) xcl5 hz3 rfl xq_444 rfl (by decide +kernel) dX11_instruct_159 (Eq.refl 162) rfl hM10 h7 ?_
  intro M11 hM11
  refine xg_aload dX11_instruct_162 (Eq.refl 164) rfl ?_
  refine xg_iload dX11_instruct_164 (Eq.refl 166) rfl ?_
  refine xg_putI (k := 7) xcl5 hz3 rfl xq_445 rfl (by decide +kernel) dX11_instruct_166 (Eq.refl 169) rfl hM11 h8 ?_
  intro M12 hM12
  refine xg_aload dX11_instruct_169 (Eq.refl 171) rfl ?_
  refine xg_iload dX11_instruct_171 (Eq.refl 173) rfl ?_
  refine xg_putI (k := 8) xcl5 hz3 rfl xq_446 rfl (by decide +kernel) dX11_instruct_173 (Eq.refl 176) rfl hM12 h9 ?_
  intro M13 hM13
  refine xg_aload_n dX11_instruct_176 (Eq.refl 177) rfl ?_
  refine xg_getR (k := 1) xcl11 h0 rfl xq_18 rfl (xt_11_1 h0).1 dX11_instruct_177 (Eq.refl 180) ?_
  refine xg_aload dX11_instruct_180 (Eq.refl 182) rfl ?_
  refine xg_iload dX11_instruct_182 (Eq.refl 184) rfl ?_
  refine xg_callV_I (kc := 1) (ks := 6) (st := []) (mX1_partnerFor hl (xr x0 1) (xt_11_1 h0).2 z3.toNat hz3 x6 h6 M13 hM13) bX1_partnerFor xcl1 (xt_11_1 h0).2 rfl xq_447 rfl (by decide) rfl (by decide) dX11_instruct_184 (Eq.refl 187) rfl (by decide) (by decide) ?_
  intro z14 M15 hz14 hM15
  refine xg_istore (ls2 := [some (.ref x0), some (iv x1), some (iv x2), some (iv x3), some (iv x4), some (iv x5), some (iv x6), some (iv x7), some (iv x8), some (iv x9), some (iv (M2 (xr x0 1) 11)), some (.ref z3.toNat), some (iv z14)]) dX11_instruct_187 (Eq.refl 189) (by decide) rfl ?_
  refine xg_iload dX11_instruct_189 (Eq.refl 191) rfl ?_
  refine xg_iconst dX11_instruct_191 (Eq.refl 192) ?_
  refine xg_icmp_eq (tgt := 207) dX11_instruct_192 (Eq.refl 195) (by decide) hz14 (by decide) ?_ ?_
  · exact xg_jump (gX11_instruct_207 hl x0 h0 (M2 (xr x0 1) 11) (hM2.I (xt_11_1 h0).2 rfl) z14 hz14 M15 hM15) (xsb_s (xsb_n (xsb_n (xsb_n (xsb_n (xsb_n (xsb_n (xsb_n (xsb_n (xsb_n (xsb_s (xsb_n (xsb_s xsb_0))))))))))))) (by decide) (by decide)
  · refine xg_aload_n dX11_instruct_195 (Eq.refl 196) rfl ?_
    refine xg_getR (k := 1) xcl11 h0 rfl xq_18 rfl (xt_11_1 h0).1 dX11_instruct_196 (Eq.refl 199) ?_
    refine xg_getI (k := 12) xcl1 (xt_11_1 h0).2 rfl xq_260 rfl dX11_instruct_199 (Eq.refl 202) ?_
    refine xg_bipush dX11_instruct_202 (Eq.refl 204) (by decide +kernel) ?_
    refine xg_icmp_ge (tgt := 211) dX11_instruct_204 (Eq.refl 207) (by decide) (hM15.I (xt_11_1 h0).2 rfl) (by decide) ?_ ?_
    · refine xg_iconst dX11_instruct_211 (Eq.refl 212) ?_
      exact xg_jump (gX11_instruct_212 hl x0 h0 (M2 (xr x0 1) 11) (hM2.I (xt_11_1 h0).2 rfl) z14 hz14 0 (by decide) M15 hM15) (xsb_s (xsb_n (xsb_n (xsb_n (xsb_n (xsb_n (xsb_n (xsb_n (xsb_n (xsb_n (xsb_s (xsb_n (xsb_s xsb_0))))))))))))) (by decide) (by decide)
    · exact xg_jump (gX11_instruct_207 hl x0 h0 (M2 (xr x0 1) 11) (hM2.I (xt_11_1 h0).2 rfl) z14 hz14 M15 hM15) (xsb_s (xsb_n (xsb_n (xsb_n (xsb_n (xsb_n (xsb_n (xsb_n (xsb_n (xsb_n (xsb_s (xsb_n (xsb_s xsb_0))))))))))))) (by decide) (by decide)
theorem gX11_instruct_26 {l : Launch} {G : xG} (hl : l.stackTraces = false) (x0 : Nat) (h0 : xOb 11 x0) (x1 : Int) (h1 : R32 x1) (x2 : Int) (h2 : R32 x2) (x3 : Int) (h3 : B01 x3) (x4 : Int) (h4 : R32 x4) (x5 : Int) (h5 : R32 x5) (x6 : Int) (h6 : R32 x6) (x7 : Int) (h7 : R32 x7) (x8 : Int) (h8 : R32 x8) (x9 : Int) (h9 : R32 x9) (s0 : Int) (hs0 : B01 s0) (M : xM) (hM : xcan M) : Gv l G uX11_instruct 4 0 8 48 26 [some (.ref x0), some (iv x1), some (iv x2), some (iv x3), some (iv x4), some (iv x5), some (iv x6), some (iv x7), some (iv x8), some (iv x9), none, none, none] [iv s0] M (fX11_instruct_26 x0 x1 x2 x3 x4 x5 x6 x7 x8 x9 s0 M) := by
  unfold fX11_instruct_26
  refine xg_callS_N (kc := 7) (ks := 42) (st := []) (mX11_needArgument hl s0 hs0 M hM) bX11_needArgument xq_153 rfl (by decide) rfl (by decide) dX11_instruct_26 (Eq.refl 29) rfl (by decide) (by decide) ?_
  intro z1 M2 hz1 hM2
  refine xg_iload dX11_instruct_29 (Eq.refl 31) rfl ?_
  refine xg_iconst dX11_instruct_31 (Eq.refl 32) ?_
  refine xg_ldc (z := 100000) xq_179 dX11_instruct_32 (Eq.refl 34) (by decide +kernel) ?_
  refine xg_callS_N (kc := 6) (ks := 36) (st := []) (mX11_needRange hl x5 h5 1 (by decide) 100000 (by decide) M2 hM2) bX11_needRange xq_150 rfl (by decide) rfl (by decide) dX11_instruct_34 (Eq.refl 37) rfl (by decide) (by decide) ?_
  intro z3 M4 hz3 hM4
  refine xg_iload dX11_instruct_37 (Eq.refl 39) rfl ?_
  refine xg_iconst dX11_instruct_39 (Eq.refl 40) ?_
  refine xg_ldc (z := 100000000) xq_437 dX11_instruct_40 (Eq.refl 42) (by decide +kernel) ?_
  refine xg_callS_N (kc := 5) (ks := 30) (st := []) (mX11_needRange hl x6 h6 0 (by decide) 100000000 (by decide) M4 hM4) bX11_needRange xq_150 rfl (by decide) rfl (by decide) dX11_instruct_42 (Eq.refl 45) rfl (by decide) (by decide) ?_
  intro z5 M6 hz5 hM6
  refine xg_iload dX11_instruct_45 (Eq.refl 47) rfl ?_
  refine xg_aload_n dX11_instruct_47 (Eq.refl 48) rfl ?_
  refine xg_getR (k := 1) xcl11 h0 rfl xq_18 rfl (xt_11_1 h0).1 dX11_instruct_48 (Eq.refl 51) ?_
  refine xg_getI (k := 16) xcl1 (xt_11_1 h0).2 rfl xq_274 rfl dX11_instruct_51 (Eq.refl 54) ?_
  refine xg_sipush dX11_instruct_54 (Eq.refl 57) (by decide +kernel) ?_
  refine xg_callS_N (kc := 4) (ks := 24) (st := []) (mX11_needRange hl x7 h7 (M6 (xr x0 1) 16) (hM6.I (xt_11_1 h0).2 rfl) 2000 (by decide) M6 hM6) bX11_needRange xq_150 rfl (by decide) rfl (by decide) dX11_instruct_57 (Eq.refl 60) rfl (by decide) (by decide) ?_
  intro z7 M8 hz7 hM8
  refine xg_iload dX11_instruct_60 (Eq.refl 62) rfl ?_
  refine xg_iconst dX11_instruct_62 (Eq.refl 63) ?_
  refine xg_bipush dX11_instruct_63 (Eq.refl 65) (by decide +kernel) ?_
  refine xg_callS_N (kc := 3) (ks := 18) (st := []) (mX11_needRange hl x8 h8 0 (by decide) 9 (by decide) M8 hM8) bX11_needRange xq_150 rfl (by decide) rfl (by decide) dX11_instruct_65 (Eq.refl 68) rfl (by decide) (by decide) ?_
  intro z9 M10 hz9 hM10
  refine xg_iload dX11_instruct_68 (Eq.refl 70) rfl ?_
  refine xg_iconst dX11_instruct_70 (Eq.refl 71) ?_
  refine xg_iload dX11_instruct_71 (Eq.refl 73) rfl ?_
  refine xg_callS_N (kc := 2) (ks := 12) (st := []) (mX11_needRange hl x9 h9 0 (by decide) x5 h5 M10 hM10) bX11_needRange xq_150 rfl (by decide) rfl (by decide) dX11_instruct_73 (Eq.refl 76) rfl (by decide) (by decide) ?_
  intro z11 M12 hz11 hM12
  refine xg_aload_n dX11_instruct_76 (Eq.refl 77) rfl ?_
  refine xg_getR (k := 1) xcl11 h0 rfl xq_18 rfl (xt_11_1 h0).1 dX11_instruct_77 (Eq.refl 80) ?_
  refine xg_getI (k := 11) xcl1 (xt_11_1 h0).2 rfl xq_246 rfl dX11_instruct_80 (Eq.refl 83) ?_
  refine xg_bipush dX11_instruct_83 (Eq.refl 85) (by decide +kernel) ?_
  refine xg_icmp_ge (tgt := 92) dX11_instruct_85 (Eq.refl 88) (by decide) (hM12.I (xt_11_1 h0).2 rfl) (by decide) ?_ ?_
  · refine xg_iconst dX11_instruct_92 (Eq.refl 93) ?_
    exact xg_jump (gX11_instruct_93 hl x0 h0 x1 h1 x2 h2 x3 h3 x4 h4 x5 h5 x6 h6 x7 h7 x8 h8 x9 h9 0 (by decide) M12 hM12) (xsb_s (xsb_s (xsb_s (xsb_s (xsb_s (xsb_s (xsb_s (xsb_s (xsb_s (xsb_s (xsb_n (xsb_n (xsb_n xsb_0))))))))))))) (by decide) (by decide)
  · refine xg_iconst dX11_instruct_88 (Eq.refl 89) ?_
    refine xg_goto (tgt := 93) dX11_instruct_89 (by decide) ?_
    exact xg_jump (gX11_instruct_93 hl x0 h0 x1 h1 x2 h2 x3 h3 x4 h4 x5 h5 x6 h6 x7 h7 x8 h8 x9 h9 1 (by decide) M12 hM12) (xsb_s (xsb_s (xsb_s (xsb_s (xsb_s (xsb_s (xsb_s (xsb_s (xsb_s (xsb_s (xsb_n (xsb_n (xsb_n xsb_0))))))))))))) (by decide) (by decide)
theorem mX11_instruct {l : Launch} {G : xG} (hl : l.stackTraces = false) (x0 : Nat) (h0 : xOb 11 x0) (x1 : Int) (h1 : R32 x1) (x2 : Int) (h2 : R32 x2) (x3 : Int) (h3 : B01 x3) (x4 : Int) (h4 : R32 x4) (x5 : Int) (h5 : R32 x5) (x6 : Int) (h6 : R32 x6) (x7 : Int) (h7 : R32 x7) (x8 : Int) (h8 : R32 x8) (x9 : Int) (h9 : R32 x9) (M : xM) (hM : xcan M) : Cm l G yX11_instruct cX11_instruct 13 (some .int) 4 0 11 66 [.ref x0, iv x1, iv x2, iv x3, iv x4, iv x5, iv x6, iv x7, iv x8, iv x9] M (fX11_instruct x0 x1 x2 x3 x4 x5 x6 x7 x8 x9 M) := by
  refine xcm_of (u := uX11_instruct) (ls := [some (.ref x0), some (iv x1), some (iv x2), some (iv x3), some (iv x4), some (iv x5), some (iv x6), some (iv x7), some (iv x8), some (iv x9), none, none, none]) 3 hl rfl (by decide +kernel) (Nat.le_of_ble_eq_true rfl) rfl ?_
  unfold fX11_instruct
  refine xg_aload_n dX11_instruct_0 (Eq.refl 1) rfl ?_
  refine xg_iload_n dX11_instruct_1 (Eq.refl 2) rfl ?_
  refine xg_callV_N (kc := 10) (ks := 60) (st := []) (mX11_needAccount hl x0 h0 x1 h1 M hM) bX11_needAccount xcl11 h0 rfl xq_141 rfl (by decide) rfl (by decide) dX11_instruct_2 (Eq.refl 5) rfl (by decide) (by decide) ?_
  intro z1 M2 hz1 hM2
  refine xg_aload_n dX11_instruct_5 (Eq.refl 6) rfl ?_
  refine xg_iload_n dX11_instruct_6 (Eq.refl 7) rfl ?_
  refine xg_callV_N (kc := 9) (ks := 54) (st := []) (mX11_needAccount hl x0 h0 x2 h2 M2 hM2) bX11_needAccount xcl11 h0 rfl xq_141 rfl (by decide) rfl (by decide) dX11_instruct_7 (Eq.refl 10) rfl (by decide) (by decide) ?_
  intro z3 M4 hz3 hM4
  refine xg_aload_n dX11_instruct_10 (Eq.refl 11) rfl ?_
  refine xg_iload dX11_instruct_11 (Eq.refl 13) rfl ?_
  refine xg_callV_N (kc := 8) (ks := 48) (st := []) (mX11_needSecurity hl x0 h0 x4 h4 M4 hM4) bX11_needSecurity xcl11 h0 rfl xq_221 rfl (by decide) rfl (by decide) dX11_instruct_13 (Eq.refl 16) rfl (by decide) (by decide) ?_
  intro z5 M6 hz5 hM6
  refine xg_iload_n dX11_instruct_16 (Eq.refl 17) rfl ?_
  refine xg_iload_n dX11_instruct_17 (Eq.refl 18) rfl ?_
  refine xg_icmp_eq (tgt := 25) dX11_instruct_18 (Eq.refl 21) (by decide) h1 h2 ?_ ?_
  · refine xg_iconst dX11_instruct_25 (Eq.refl 26) ?_
    exact xg_jump (gX11_instruct_26 hl x0 h0 x1 h1 x2 h2 x3 h3 x4 h4 x5 h5 x6 h6 x7 h7 x8 h8 x9 h9 0 (by decide) M6 hM6) (xsb_s (xsb_s (xsb_s (xsb_s (xsb_s (xsb_s (xsb_s (xsb_s (xsb_s (xsb_s (xsb_n (xsb_n (xsb_n xsb_0))))))))))))) (by decide) (by decide)
  · refine xg_iconst dX11_instruct_21 (Eq.refl 22) ?_
    refine xg_goto (tgt := 26) dX11_instruct_22 (by decide) ?_
    exact xg_jump (gX11_instruct_26 hl x0 h0 x1 h1 x2 h2 x3 h3 x4 h4 x5 h5 x6 h6 x7 h7 x8 h8 x9 h9 1 (by decide) M6 hM6) (xsb_s (xsb_s (xsb_s (xsb_s (xsb_s (xsb_s (xsb_s (xsb_s (xsb_s (xsb_s (xsb_n (xsb_n (xsb_n xsb_0))))))))))))) (by decide) (by decide)
abbrev uX11_needInstruction : xU := (RX11, cX11_needInstruction, 2, none, [], "needInstruction")
theorem bX11_needInstruction : xYV yX11_needInstruction cX11_needInstruction 2 none 1 := ⟨xq_243, xq_244, xq_2, xq_245, ⟨by decide +kernel, by decide +kernel, by decide +kernel⟩, by decide⟩
theorem mX11_needInstruction {l : Launch} {G : xG} (hl : l.stackTraces = false) (x0 : Nat) (h0 : xOb 11 x0) (x1 : Int) (h1 : R32 x1) (M : xM) (hM : xcan M) : Cm l G yX11_needInstruction cX11_needInstruction 2 none 2 3 1 6 [.ref x0, iv x1] M (fX11_needInstruction x0 x1 M) := by
  refine xcm_of (u := uX11_needInstruction) (ls := [some (.ref x0), some (iv x1)]) 0 hl rfl (by decide +kernel) (Nat.le_of_ble_eq_true rfl) rfl ?_
  unfold fX11_needInstruction
  refine xg_iload_n dX11_needInstruction_0 (Eq.refl 1) rfl ?_
  refine xg_aload_n dX11_needInstruction_1 (Eq.refl 2) rfl ?_
  refine xg_getR (k := 1) xcl11 h0 rfl xq_18 rfl (xt_11_1 h0).1 dX11_needInstruction_2 (Eq.refl 5) ?_
  refine xg_getI (k := 11) xcl1 (xt_11_1 h0).2 rfl xq_246 rfl dX11_needInstruction_5 (Eq.refl 8) ?_
  refine xg_callS_N (kc := 0) (ks := 0) (st := []) (mX11_needIndex hl x1 h1 (M (xr x0 1) 11) (hM.I (xt_11_1 h0).2 rfl) M hM) bX11_needIndex xq_145 rfl (by decide) rfl (by decide) dX11_needInstruction_8 (Eq.refl 11) rfl (by decide) (by decide) ?_
  intro z1 M2 hz1 hM2
  exact xg_vret rfl dX11_needInstruction_11 rfl hM2
abbrev uX11_cancel : xU := (RX11, cX11_cancel, 4, (some .boolean), [], "cancel")
theorem bX11_cancel : xYV yX11_cancel cX11_cancel 4 (some .boolean) 1 := ⟨xq_529, xq_530, xq_2, xq_531, ⟨by decide +kernel, by decide +kernel, by decide +kernel⟩, by decide⟩
theorem mX11_cancel {l : Launch} {G : xG} (hl : l.stackTraces = false) (x0 : Nat) (h0 : xOb 11 x0) (x1 : Int) (h1 : R32 x1) (M : xM) (hM : xcan M) : Cm l G yX11_cancel cX11_cancel 4 (some .boolean) 4 1 2 12 [.ref x0, iv x1] M (fX11_cancel x0 x1 M) := by
  refine xcm_of (u := uX11_cancel) (ls := [some (.ref x0), some (iv x1), none, none]) 2 hl rfl (by decide +kernel) (Nat.le_of_ble_eq_true rfl) rfl ?_
  unfold fX11_cancel
  refine xg_aload_n dX11_cancel_0 (Eq.refl 1) rfl ?_
  refine xg_iload_n dX11_cancel_1 (Eq.refl 2) rfl ?_
  refine xg_callV_N (kc := 1) (ks := 6) (st := []) (mX11_needInstruction hl x0 h0 x1 h1 M hM) bX11_needInstruction xcl11 h0 rfl xq_242 rfl (by decide) rfl (by decide) dX11_cancel_2 (Eq.refl 5) rfl (by decide) (by decide) ?_
  intro z1 M2 hz1 hM2
  refine xg_aload_n dX11_cancel_5 (Eq.refl 6) rfl ?_
  refine xg_getR (k := 1) xcl11 h0 rfl xq_18 rfl (xt_11_1 h0).1 dX11_cancel_6 (Eq.refl 9) ?_
  refine xg_iload_n dX11_cancel_9 (Eq.refl 10) rfl ?_
  refine xg_callV_R (cr := 5) (kc := 1) (ks := 6) (st := []) (mX1_instruction hl (xr x0 1) (xt_11_1 h0).2 x1 h1 M2 hM2) bX1_instruction xcl1 (xt_11_1 h0).2 rfl xq_247 rfl (by decide) rfl (by decide) dX11_cancel_10 (Eq.refl 13) rfl (by decide) (by decide) ?_
  intro z3 M4 hz3 hM4
  refine xg_astore_n (ls2 := [some (.ref x0), some (iv x1), some (.ref z3.toNat), none]) dX11_cancel_13 (Eq.refl 14) (by decide) rfl ?_
  refine xg_aload_n dX11_cancel_14 (Eq.refl 15) rfl ?_
  refine xg_callV_Z (kc := 1) (ks := 6) (st := []) (mX5_isAlive hl z3.toNat hz3 M4 hM4) bX5_isAlive xcl5 hz3 rfl xq_535 rfl (by decide) rfl (by decide) dX11_cancel_15 (Eq.refl 18) rfl (by decide) (by decide) ?_
  intro z5 M6 hz5 hM6
  refine xg_callS_N (kc := 0) (ks := 0) (st := []) (mX11_needState hl z5 hz5 M6 hM6) bX11_needState xq_162 rfl (by decide) rfl (by decide) dX11_cancel_18 (Eq.refl 21) rfl (by decide) (by decide) ?_
  intro z7 M8 hz7 hM8
  refine xg_aload_n dX11_cancel_21 (Eq.refl 22) rfl ?_
  refine xg_getI (k := 9) xcl5 hz3 rfl xq_241 rfl dX11_cancel_22 (Eq.refl 25) ?_
  refine xg_if_ne (tgt := 38) dX11_cancel_25 (Eq.refl 28) (by decide) (hM8.I hz3 rfl) ?_ ?_
  · refine xg_aload_n dX11_cancel_28 (Eq.refl 29) rfl ?_
    refine xg_getR (k := 1) xcl11 h0 rfl xq_18 rfl (xt_11_1 h0).1 dX11_cancel_29 (Eq.refl 32) ?_
    refine xg_aload_n dX11_cancel_32 (Eq.refl 33) rfl ?_
    refine xg_callV_N (kc := 0) (ks := 0) (st := []) (mX1_cancelInstruction hl (xr x0 1) (xt_11_1 h0).2 z3.toNat hz3 M8 hM8) bX1_cancelInstruction xcl1 (xt_11_1 h0).2 rfl xq_539 rfl (by decide) rfl (by decide) dX11_cancel_33 (Eq.refl 36) rfl (by decide) (by decide) ?_
    intro z9 M10 hz9 hM10
    refine xg_iconst dX11_cancel_36 (Eq.refl 37) ?_
    exact xg_zret rfl dX11_cancel_37 rfl hM10 (by decide)
  · refine xg_aload_n dX11_cancel_38 (Eq.refl 39) rfl ?_
    refine xg_iconst dX11_cancel_39 (Eq.refl 40) ?_
    refine xg_putZ (k := 12) xcl5 hz3 rfl xq_532 rfl (by decide +kernel) dX11_cancel_40 (Eq.refl 43) rfl hM8 (by decide) ?_
    intro M11 hM11
    refine xg_aload_n dX11_cancel_43 (Eq.refl 44) rfl ?_
    refine xg_getR (k := 1) xcl11 h0 rfl xq_18 rfl (xt_11_1 h0).1 dX11_cancel_44 (Eq.refl 47) ?_
    refine xg_aload_n dX11_cancel_47 (Eq.refl 48) rfl ?_
    refine xg_getI (k := 10) xcl5 hz3 rfl xq_507 rfl dX11_cancel_48 (Eq.refl 51) ?_
    refine xg_callV_R (cr := 10) (kc := 0) (ks := 0) (st := []) (mX1_trade hl (xr x0 1) (xt_11_1 h0).2 (M11 z3.toNat 10) (hM11.I hz3 rfl) M11 hM11) bX1_trade xcl1 (xt_11_1 h0).2 rfl xq_261 rfl (by decide) rfl (by decide) dX11_cancel_51 (Eq.refl 54) rfl (by decide) (by decide) ?_
    intro z12 M13 hz12 hM13
    refine xg_astore_n (ls2 := [some (.ref x0), some (iv x1), some (.ref z3.toNat), some (.ref z12.toNat)]) dX11_cancel_54 (Eq.refl 55) (by decide) rfl ?_
    refine xg_aload_n dX11_cancel_55 (Eq.refl 56) rfl ?_
    refine xg_getR (k := 1) xcl11 h0 rfl xq_18 rfl (xt_11_1 h0).1 dX11_cancel_56 (Eq.refl 59) ?_
    refine xg_aload_n dX11_cancel_59 (Eq.refl 60) rfl ?_
    refine xg_getI (k := 1) xcl10 hz12 rfl xq_533 rfl dX11_cancel_60 (Eq.refl 63) ?_
    refine xg_callV_R (cr := 5) (kc := 0) (ks := 0) (st := []) (mX1_instruction hl (xr x0 1) (xt_11_1 h0).2 (M13 z12.toNat 1) (hM13.I hz12 rfl) M13 hM13) bX1_instruction xcl1 (xt_11_1 h0).2 rfl xq_247 rfl (by decide) rfl (by decide) dX11_cancel_63 (Eq.refl 66) rfl (by decide) (by decide) ?_
    intro z14 M15 hz14 hM15
    refine xg_getZ (k := 12) xcl5 hz14 rfl xq_532 rfl dX11_cancel_66 (Eq.refl 69) hM15 ?_
    refine xg_if_eq (tgt := 89) dX11_cancel_69 (Eq.refl 72) (by decide) (B01.r (hM15.Z hz14 rfl)) ?_ ?_
    · refine xg_iconst dX11_cancel_89 (Eq.refl 90) ?_
      exact xg_zret rfl dX11_cancel_90 rfl hM15 (by decide)
    · refine xg_aload_n dX11_cancel_72 (Eq.refl 73) rfl ?_
      refine xg_getR (k := 1) xcl11 h0 rfl xq_18 rfl (xt_11_1 h0).1 dX11_cancel_73 (Eq.refl 76) ?_
      refine xg_aload_n dX11_cancel_76 (Eq.refl 77) rfl ?_
      refine xg_getI (k := 2) xcl10 hz12 rfl xq_534 rfl dX11_cancel_77 (Eq.refl 80) ?_
      refine xg_callV_R (cr := 5) (kc := 0) (ks := 0) (st := []) (mX1_instruction hl (xr x0 1) (xt_11_1 h0).2 (M15 z12.toNat 2) (hM15.I hz12 rfl) M15 hM15) bX1_instruction xcl1 (xt_11_1 h0).2 rfl xq_247 rfl (by decide) rfl (by decide) dX11_cancel_80 (Eq.refl 83) rfl (by decide) (by decide) ?_
      intro z16 M17 hz16 hM17
      refine xg_getZ (k := 12) xcl5 hz16 rfl xq_532 rfl dX11_cancel_83 (Eq.refl 86) hM17 ?_
      refine xg_if_ne (tgt := 91) dX11_cancel_86 (Eq.refl 89) (by decide) (B01.r (hM17.Z hz16 rfl)) ?_ ?_
      · refine xg_iconst dX11_cancel_89 (Eq.refl 90) ?_
        exact xg_zret rfl dX11_cancel_90 rfl hM17 (by decide)
      · refine xg_aload_n dX11_cancel_91 (Eq.refl 92) rfl ?_
        refine xg_getR (k := 1) xcl11 h0 rfl xq_18 rfl (xt_11_1 h0).1 dX11_cancel_92 (Eq.refl 95) ?_
        refine xg_aload_n dX11_cancel_95 (Eq.refl 96) rfl ?_
        refine xg_callV_N (kc := 0) (ks := 0) (st := []) (mX1_cancelTrade hl (xr x0 1) (xt_11_1 h0).2 z12.toNat hz12 M17 hM17) bX1_cancelTrade xcl1 (xt_11_1 h0).2 rfl xq_543 rfl (by decide) rfl (by decide) dX11_cancel_96 (Eq.refl 99) rfl (by decide) (by decide) ?_
        intro z18 M19 hz18 hM19
        refine xg_iconst dX11_cancel_99 (Eq.refl 100) ?_
        exact xg_zret rfl dX11_cancel_100 rfl hM19 (by decide)
abbrev uX11_hold : xU := (RX11, cX11_hold, 3, (some .boolean), [], "hold")
theorem bX11_hold : xYV yX11_hold cX11_hold 3 (some .boolean) 1 := ⟨xq_565, xq_566, xq_2, xq_567, ⟨by decide +kernel, by decide +kernel, by decide +kernel⟩, by decide⟩
theorem gX11_hold_34 {l : Launch} {G : xG} (hl : l.stackTraces = false) (x2 : Nat) (h2 : xOb 5 x2) (s0 : Int) (hs0 : B01 s0) (s1 : Nat) (hs1 : xOb 5 s1) (M : xM) (hM : xcan M) : Gv l G uX11_hold 3 1 0 0 34 [none, none, some (.ref x2)] [iv s0, .ref s1] M (fX11_hold_34 x2 s0 s1 M) := by
  unfold fX11_hold_34
  refine xg_putZ (k := 11) xcl5 hs1 rfl xq_568 rfl (by decide +kernel) dX11_hold_34 (Eq.refl 37) rfl hM hs0 ?_
  intro M1 hM1
  refine xg_aload_n dX11_hold_37 (Eq.refl 38) rfl ?_
  refine xg_getZ (k := 11) xcl5 h2 rfl xq_568 rfl dX11_hold_38 (Eq.refl 41) hM1 ?_
  exact xg_zret rfl dX11_hold_41 rfl hM1 (hM1.Z h2 rfl)
theorem mX11_hold {l : Launch} {G : xG} (hl : l.stackTraces = false) (x0 : Nat) (h0 : xOb 11 x0) (x1 : Int) (h1 : R32 x1) (M : xM) (hM : xcan M) : Cm l G yX11_hold cX11_hold 3 (some .boolean) 3 1 2 12 [.ref x0, iv x1] M (fX11_hold x0 x1 M) := by
  refine xcm_of (u := uX11_hold) (ls := [some (.ref x0), some (iv x1), none]) 1 hl rfl (by decide +kernel) (Nat.le_of_ble_eq_true rfl) rfl ?_
  unfold fX11_hold
  refine xg_aload_n dX11_hold_0 (Eq.refl 1) rfl ?_
  refine xg_iload_n dX11_hold_1 (Eq.refl 2) rfl ?_
  refine xg_callV_N (kc := 1) (ks := 6) (st := []) (mX11_needInstruction hl x0 h0 x1 h1 M hM) bX11_needInstruction xcl11 h0 rfl xq_242 rfl (by decide) rfl (by decide) dX11_hold_2 (Eq.refl 5) rfl (by decide) (by decide) ?_
  intro z1 M2 hz1 hM2
  refine xg_aload_n dX11_hold_5 (Eq.refl 6) rfl ?_
  refine xg_getR (k := 1) xcl11 h0 rfl xq_18 rfl (xt_11_1 h0).1 dX11_hold_6 (Eq.refl 9) ?_
  refine xg_iload_n dX11_hold_9 (Eq.refl 10) rfl ?_
  refine xg_callV_R (cr := 5) (kc := 1) (ks := 6) (st := []) (mX1_instruction hl (xr x0 1) (xt_11_1 h0).2 x1 h1 M2 hM2) bX1_instruction xcl1 (xt_11_1 h0).2 rfl xq_247 rfl (by decide) rfl (by decide) dX11_hold_10 (Eq.refl 13) rfl (by decide) (by decide) ?_
  intro z3 M4 hz3 hM4
  refine xg_astore_n (ls2 := [some (.ref x0), some (iv x1), some (.ref z3.toNat)]) dX11_hold_13 (Eq.refl 14) (by decide) rfl ?_
  refine xg_aload_n dX11_hold_14 (Eq.refl 15) rfl ?_
  refine xg_callV_Z (kc := 1) (ks := 6) (st := []) (mX5_isAlive hl z3.toNat hz3 M4 hM4) bX5_isAlive xcl5 hz3 rfl xq_535 rfl (by decide) rfl (by decide) dX11_hold_15 (Eq.refl 18) rfl (by decide) (by decide) ?_
  intro z5 M6 hz5 hM6
  refine xg_callS_N (kc := 0) (ks := 0) (st := []) (mX11_needState hl z5 hz5 M6 hM6) bX11_needState xq_162 rfl (by decide) rfl (by decide) dX11_hold_18 (Eq.refl 21) rfl (by decide) (by decide) ?_
  intro z7 M8 hz7 hM8
  refine xg_aload_n dX11_hold_21 (Eq.refl 22) rfl ?_
  refine xg_aload_n dX11_hold_22 (Eq.refl 23) rfl ?_
  refine xg_getZ (k := 11) xcl5 hz3 rfl xq_568 rfl dX11_hold_23 (Eq.refl 26) hM8 ?_
  refine xg_if_ne (tgt := 33) dX11_hold_26 (Eq.refl 29) (by decide) (B01.r (hM8.Z hz3 rfl)) ?_ ?_
  · refine xg_iconst dX11_hold_29 (Eq.refl 30) ?_
    refine xg_goto (tgt := 34) dX11_hold_30 (by decide) ?_
    exact xg_jump (gX11_hold_34 hl z3.toNat hz3 1 (by decide) z3.toNat hz3 M8 hM8) (xsb_n (xsb_n (xsb_s xsb_0))) (by decide) (by decide)
  · refine xg_iconst dX11_hold_33 (Eq.refl 34) ?_
    exact xg_jump (gX11_hold_34 hl z3.toNat hz3 0 (by decide) z3.toNat hz3 M8 hM8) (xsb_n (xsb_n (xsb_s xsb_0))) (by decide) (by decide)
abbrev uX11_needTrade : xU := (RX11, cX11_needTrade, 2, none, [], "needTrade")
theorem bX11_needTrade : xYV yX11_needTrade cX11_needTrade 2 none 1 := ⟨xq_257, xq_258, xq_2, xq_259, ⟨by decide +kernel, by decide +kernel, by decide +kernel⟩, by decide⟩
theorem mX11_needTrade {l : Launch} {G : xG} (hl : l.stackTraces = false) (x0 : Nat) (h0 : xOb 11 x0) (x1 : Int) (h1 : R32 x1) (M : xM) (hM : xcan M) : Cm l G yX11_needTrade cX11_needTrade 2 none 2 3 1 6 [.ref x0, iv x1] M (fX11_needTrade x0 x1 M) := by
  refine xcm_of (u := uX11_needTrade) (ls := [some (.ref x0), some (iv x1)]) 0 hl rfl (by decide +kernel) (Nat.le_of_ble_eq_true rfl) rfl ?_
  unfold fX11_needTrade
  refine xg_iload_n dX11_needTrade_0 (Eq.refl 1) rfl ?_
  refine xg_aload_n dX11_needTrade_1 (Eq.refl 2) rfl ?_
  refine xg_getR (k := 1) xcl11 h0 rfl xq_18 rfl (xt_11_1 h0).1 dX11_needTrade_2 (Eq.refl 5) ?_
  refine xg_getI (k := 12) xcl1 (xt_11_1 h0).2 rfl xq_260 rfl dX11_needTrade_5 (Eq.refl 8) ?_
  refine xg_callS_N (kc := 0) (ks := 0) (st := []) (mX11_needIndex hl x1 h1 (M (xr x0 1) 12) (hM.I (xt_11_1 h0).2 rfl) M hM) bX11_needIndex xq_145 rfl (by decide) rfl (by decide) dX11_needTrade_8 (Eq.refl 11) rfl (by decide) (by decide) ?_
  intro z1 M2 hz1 hM2
  exact xg_vret rfl dX11_needTrade_11 rfl hM2
abbrev uX11_link : xU := (RX11, cX11_link, 5, (some .int), [], "link")
theorem bX11_link : xYV yX11_link cX11_link 5 (some .int) 3 := ⟨xq_573, xq_574, xq_2, xq_575, ⟨by decide +kernel, by decide +kernel, by decide +kernel⟩, by decide⟩
theorem gX11_link_90 {l : Launch} {G : xG} (hl : l.stackTraces = false) (x0 : Nat) (h0 : xOb 11 x0) (x1 : Int) (h1 : R32 x1) (x2 : Int) (h2 : R32 x2) (x3 : Int) (h3 : B01 x3) (s0 : Int) (hs0 : B01 s0) (M : xM) (hM : xcan M) : Gv l G uX11_link 3 0 1 6 90 [some (.ref x0), some (iv x1), some (iv x2), some (iv x3), none] [iv s0] M (fX11_link_90 x0 x1 x2 x3 s0 M) := by
  unfold fX11_link_90
  refine xg_callS_N (kc := 0) (ks := 0) (st := []) (mX11_needState hl s0 hs0 M hM) bX11_needState xq_162 rfl (by decide) rfl (by decide) dX11_link_90 (Eq.refl 93) rfl (by decide) (by decide) ?_
  intro z1 M2 hz1 hM2
  refine xg_aload_n dX11_link_93 (Eq.refl 94) rfl ?_
  refine xg_getR (k := 1) xcl11 h0 rfl xq_18 rfl (xt_11_1 h0).1 dX11_link_94 (Eq.refl 97) ?_
  refine xg_aload_n dX11_link_97 (Eq.refl 98) rfl ?_
  refine xg_getR (k := 1) xcl11 h0 rfl xq_18 rfl (xt_11_1 h0).1 dX11_link_98 (Eq.refl 101) ?_
  refine xg_getI (k := 13) xcl1 (xt_11_1 h0).2 rfl xq_577 rfl dX11_link_101 (Eq.refl 104) ?_
  refine xg_callV_R (cr := 6) (kc := 0) (ks := 0) (st := []) (mX1_linkAt hl (xr x0 1) (xt_11_1 h0).2 (M2 (xr x0 1) 13) (hM2.I (xt_11_1 h0).2 rfl) M2 hM2) bX1_linkAt xcl1 (xt_11_1 h0).2 rfl xq_585 rfl (by decide) rfl (by decide) dX11_link_104 (Eq.refl 107) rfl (by decide) (by decide) ?_
  intro z3 M4 hz3 hM4
  refine xg_astore (ls2 := [some (.ref x0), some (iv x1), some (iv x2), some (iv x3), some (.ref z3.toNat)]) dX11_link_107 (Eq.refl 109) (by decide) rfl ?_
  refine xg_aload dX11_link_109 (Eq.refl 111) rfl ?_
  refine xg_iload_n dX11_link_111 (Eq.refl 112) rfl ?_
  refine xg_putI (k := 0) xcl6 hz3 rfl xq_578 rfl (by decide +kernel) dX11_link_112 (Eq.refl 115) rfl hM4 h1 ?_
  intro M5 hM5
  refine xg_aload dX11_link_115 (Eq.refl 117) rfl ?_
  refine xg_iload_n dX11_link_117 (Eq.refl 118) rfl ?_
  refine xg_putI (k := 1) xcl6 hz3 rfl xq_579 rfl (by decide +kernel) dX11_link_118 (Eq.refl 121) rfl hM5 h2 ?_
  intro M6 hM6
  refine xg_aload dX11_link_121 (Eq.refl 123) rfl ?_
  refine xg_iload_n dX11_link_123 (Eq.refl 124) rfl ?_
  refine xg_putZ (k := 2) xcl6 hz3 rfl xq_580 rfl (by decide +kernel) dX11_link_124 (Eq.refl 127) rfl hM6 h3 ?_
  intro M7 hM7
  refine xg_aload_n dX11_link_127 (Eq.refl 128) rfl ?_
  refine xg_getR (k := 1) xcl11 h0 rfl xq_18 rfl (xt_11_1 h0).1 dX11_link_128 (Eq.refl 131) ?_
  refine xg_dup dX11_link_131 (Eq.refl 132) rfl ?_
  refine xg_getI (k := 13) xcl1 (xt_11_1 h0).2 rfl xq_577 rfl dX11_link_132 (Eq.refl 135) ?_
  refine xg_iconst dX11_link_135 (Eq.refl 136) ?_
  refine xg_iadd dX11_link_136 (Eq.refl 137) ?_
  refine xg_putI (k := 13) xcl1 (xt_11_1 h0).2 rfl xq_577 rfl (by decide +kernel) dX11_link_137 (Eq.refl 140) rfl hM7 (w32_r _) ?_
  intro M8 hM8
  refine xg_aload_n dX11_link_140 (Eq.refl 141) rfl ?_
  refine xg_getR (k := 1) xcl11 h0 rfl xq_18 rfl (xt_11_1 h0).1 dX11_link_141 (Eq.refl 144) ?_
  refine xg_getI (k := 13) xcl1 (xt_11_1 h0).2 rfl xq_577 rfl dX11_link_144 (Eq.refl 147) ?_
  exact xg_iret rfl dX11_link_147 rfl hM8 (hM8.I (xt_11_1 h0).2 rfl)
theorem gX11_link_89 {l : Launch} {G : xG} (hl : l.stackTraces = false) (x0 : Nat) (h0 : xOb 11 x0) (x1 : Int) (h1 : R32 x1) (x2 : Int) (h2 : R32 x2) (x3 : Int) (h3 : B01 x3) (M : xM) (hM : xcan M) : Gv l G uX11_link 3 0 1 6 89 [some (.ref x0), some (iv x1), some (iv x2), some (iv x3), none] [] M (fX11_link_89 x0 x1 x2 x3 M) := by
  unfold fX11_link_89
  refine xg_iconst dX11_link_89 (Eq.refl 90) ?_
  exact xg_jump (gX11_link_90 hl x0 h0 x1 h1 x2 h2 x3 h3 0 (by decide) M hM) (xsb_s (xsb_s (xsb_s (xsb_s (xsb_n xsb_0))))) (by decide) (by decide)
theorem gX11_link_58 {l : Launch} {G : xG} (hl : l.stackTraces = false) (x0 : Nat) (h0 : xOb 11 x0) (x1 : Int) (h1 : R32 x1) (x2 : Int) (h2 : R32 x2) (x3 : Int) (h3 : B01 x3) (s0 : Int) (hs0 : B01 s0) (M : xM) (hM : xcan M) : Gv l G uX11_link 3 0 2 12 58 [some (.ref x0), some (iv x1), some (iv x2), some (iv x3), none] [iv s0] M (fX11_link_58 x0 x1 x2 x3 s0 M) := by
  unfold fX11_link_58
  refine xg_callS_N (kc := 1) (ks := 6) (st := []) (mX11_needState hl s0 hs0 M hM) bX11_needState xq_162 rfl (by decide) rfl (by decide) dX11_link_58 (Eq.refl 61) rfl (by decide) (by decide) ?_
  intro z1 M2 hz1 hM2
  refine xg_aload_n dX11_link_61 (Eq.refl 62) rfl ?_
  refine xg_getR (k := 1) xcl11 h0 rfl xq_18 rfl (xt_11_1 h0).1 dX11_link_62 (Eq.refl 65) ?_
  refine xg_iload_n dX11_link_65 (Eq.refl 66) rfl ?_
  refine xg_iload_n dX11_link_66 (Eq.refl 67) rfl ?_
  refine xg_callV_Z (kc := 1) (ks := 6) (st := []) (mX1_isLinkOf hl (xr x0 1) (xt_11_1 h0).2 x1 h1 x2 h2 M2 hM2) bX1_isLinkOf xcl1 (xt_11_1 h0).2 rfl xq_581 rfl (by decide) rfl (by decide) dX11_link_67 (Eq.refl 70) rfl (by decide) (by decide) ?_
  intro z3 M4 hz3 hM4
  refine xg_if_ne (tgt := 89) dX11_link_70 (Eq.refl 73) (by decide) (B01.r hz3) ?_ ?_
  · refine xg_aload_n dX11_link_73 (Eq.refl 74) rfl ?_
    refine xg_getR (k := 1) xcl11 h0 rfl xq_18 rfl (xt_11_1 h0).1 dX11_link_74 (Eq.refl 77) ?_
    refine xg_getI (k := 13) xcl1 (xt_11_1 h0).2 rfl xq_577 rfl dX11_link_77 (Eq.refl 80) ?_
    refine xg_bipush dX11_link_80 (Eq.refl 82) (by decide +kernel) ?_
    refine xg_icmp_ge (tgt := 89) dX11_link_82 (Eq.refl 85) (by decide) (hM4.I (xt_11_1 h0).2 rfl) (by decide) ?_ ?_
    · exact xg_jump (gX11_link_89 hl x0 h0 x1 h1 x2 h2 x3 h3 M4 hM4) (xsb_s (xsb_s (xsb_s (xsb_s (xsb_n xsb_0))))) (by decide) (by decide)
    · refine xg_iconst dX11_link_85 (Eq.refl 86) ?_
      refine xg_goto (tgt := 90) dX11_link_86 (by decide) ?_
      exact xg_jump (gX11_link_90 hl x0 h0 x1 h1 x2 h2 x3 h3 1 (by decide) M4 hM4) (xsb_s (xsb_s (xsb_s (xsb_s (xsb_n xsb_0))))) (by decide) (by decide)
  · exact xg_jump (gX11_link_89 hl x0 h0 x1 h1 x2 h2 x3 h3 M4 hM4) (xsb_s (xsb_s (xsb_s (xsb_s (xsb_n xsb_0))))) (by decide) (by decide)
theorem gX11_link_57 {l : Launch} {G : xG} (hl : l.stackTraces = false) (x0 : Nat) (h0 : xOb 11 x0) (x1 : Int) (h1 : R32 x1) (x2 : Int) (h2 : R32 x2) (x3 : Int) (h3 : B01 x3) (M : xM) (hM : xcan M) : Gv l G uX11_link 3 0 2 12 57 [some (.ref x0), some (iv x1), some (iv x2), some (iv x3), none] [] M (fX11_link_57 x0 x1 x2 x3 M) := by
  unfold fX11_link_57
  refine xg_iconst dX11_link_57 (Eq.refl 58) ?_
  exact xg_jump (gX11_link_58 hl x0 h0 x1 h1 x2 h2 x3 h3 0 (by decide) M hM) (xsb_s (xsb_s (xsb_s (xsb_s (xsb_n xsb_0))))) (by decide) (by decide)
theorem gX11_link_20 {l : Launch} {G : xG} (hl : l.stackTraces = false) (x0 : Nat) (h0 : xOb 11 x0) (x1 : Int) (h1 : R32 x1) (x2 : Int) (h2 : R32 x2) (x3 : Int) (h3 : B01 x3) (s0 : Int) (hs0 : B01 s0) (M : xM) (hM : xcan M) : Gv l G uX11_link 3 0 3 18 20 [some (.ref x0), some (iv x1), some (iv x2), some (iv x3), none] [iv s0] M (fX11_link_20 x0 x1 x2 x3 s0 M) := by
  unfold fX11_link_20
  refine xg_callS_N (kc := 2) (ks := 12) (st := []) (mX11_needArgument hl s0 hs0 M hM) bX11_needArgument xq_153 rfl (by decide) rfl (by decide) dX11_link_20 (Eq.refl 23) rfl (by decide) (by decide) ?_
  intro z1 M2 hz1 hM2
  refine xg_aload_n dX11_link_23 (Eq.refl 24) rfl ?_
  refine xg_getR (k := 1) xcl11 h0 rfl xq_18 rfl (xt_11_1 h0).1 dX11_link_24 (Eq.refl 27) ?_
  refine xg_iload_n dX11_link_27 (Eq.refl 28) rfl ?_
  refine xg_callV_R (cr := 10) (kc := 2) (ks := 12) (st := []) (mX1_trade hl (xr x0 1) (xt_11_1 h0).2 x1 h1 M2 hM2) bX1_trade xcl1 (xt_11_1 h0).2 rfl xq_261 rfl (by decide) rfl (by decide) dX11_link_28 (Eq.refl 31) rfl (by decide) (by decide) ?_
  intro z3 M4 hz3 hM4
  refine xg_getI (k := 12) xcl10 hz3 rfl xq_576 rfl dX11_link_31 (Eq.refl 34) ?_
  refine xg_iconst dX11_link_34 (Eq.refl 35) ?_
  refine xg_icmp_ne (tgt := 57) dX11_link_35 (Eq.refl 38) (by decide) (hM4.I hz3 rfl) (by decide) ?_ ?_
  · refine xg_aload_n dX11_link_38 (Eq.refl 39) rfl ?_
    refine xg_getR (k := 1) xcl11 h0 rfl xq_18 rfl (xt_11_1 h0).1 dX11_link_39 (Eq.refl 42) ?_
    refine xg_iload_n dX11_link_42 (Eq.refl 43) rfl ?_
    refine xg_callV_R (cr := 10) (kc := 2) (ks := 12) (st := []) (mX1_trade hl (xr x0 1) (xt_11_1 h0).2 x2 h2 M4 hM4) bX1_trade xcl1 (xt_11_1 h0).2 rfl xq_261 rfl (by decide) rfl (by decide) dX11_link_43 (Eq.refl 46) rfl (by decide) (by decide) ?_
    intro z5 M6 hz5 hM6
    refine xg_getI (k := 12) xcl10 hz5 rfl xq_576 rfl dX11_link_46 (Eq.refl 49) ?_
    refine xg_iconst dX11_link_49 (Eq.refl 50) ?_
    refine xg_icmp_ne (tgt := 57) dX11_link_50 (Eq.refl 53) (by decide) (hM6.I hz5 rfl) (by decide) ?_ ?_
    · refine xg_iconst dX11_link_53 (Eq.refl 54) ?_
      refine xg_goto (tgt := 58) dX11_link_54 (by decide) ?_
      exact xg_jump (gX11_link_58 hl x0 h0 x1 h1 x2 h2 x3 h3 1 (by decide) M6 hM6) (xsb_s (xsb_s (xsb_s (xsb_s (xsb_n xsb_0))))) (by decide) (by decide)
    · exact xg_jump (gX11_link_57 hl x0 h0 x1 h1 x2 h2 x3 h3 M6 hM6) (xsb_s (xsb_s (xsb_s (xsb_s (xsb_n xsb_0))))) (by decide) (by decide)
  · exact xg_jump (gX11_link_57 hl x0 h0 x1 h1 x2 h2 x3 h3 M4 hM4) (xsb_s (xsb_s (xsb_s (xsb_s (xsb_n xsb_0))))) (by decide) (by decide)
theorem mX11_link {l : Launch} {G : xG} (hl : l.stackTraces = false) (x0 : Nat) (h0 : xOb 11 x0) (x1 : Int) (h1 : R32 x1) (x2 : Int) (h2 : R32 x2) (x3 : Int) (h3 : B01 x3) (M : xM) (hM : xcan M) : Cm l G yX11_link cX11_link 5 (some .int) 3 0 5 30 [.ref x0, iv x1, iv x2, iv x3] M (fX11_link x0 x1 x2 x3 M) := by
  refine xcm_of (u := uX11_link) (ls := [some (.ref x0), some (iv x1), some (iv x2), some (iv x3), none]) 1 hl rfl (by decide +kernel) (Nat.le_of_ble_eq_true rfl) rfl ?_
  unfold fX11_link
  refine xg_aload_n dX11_link_0 (Eq.refl 1) rfl ?_
  refine xg_iload_n dX11_link_1 (Eq.refl 2) rfl ?_
  refine xg_callV_N (kc := 4) (ks := 24) (st := []) (mX11_needTrade hl x0 h0 x1 h1 M hM) bX11_needTrade xcl11 h0 rfl xq_256 rfl (by decide) rfl (by decide) dX11_link_2 (Eq.refl 5) rfl (by decide) (by decide) ?_
  intro z1 M2 hz1 hM2
  refine xg_aload_n dX11_link_5 (Eq.refl 6) rfl ?_
  refine xg_iload_n dX11_link_6 (Eq.refl 7) rfl ?_
  refine xg_callV_N (kc := 3) (ks := 18) (st := []) (mX11_needTrade hl x0 h0 x2 h2 M2 hM2) bX11_needTrade xcl11 h0 rfl xq_256 rfl (by decide) rfl (by decide) dX11_link_7 (Eq.refl 10) rfl (by decide) (by decide) ?_
  intro z3 M4 hz3 hM4
  refine xg_iload_n dX11_link_10 (Eq.refl 11) rfl ?_
  refine xg_iload_n dX11_link_11 (Eq.refl 12) rfl ?_
  refine xg_icmp_eq (tgt := 19) dX11_link_12 (Eq.refl 15) (by decide) h1 h2 ?_ ?_
  · refine xg_iconst dX11_link_19 (Eq.refl 20) ?_
    exact xg_jump (gX11_link_20 hl x0 h0 x1 h1 x2 h2 x3 h3 0 (by decide) M4 hM4) (xsb_s (xsb_s (xsb_s (xsb_s (xsb_n xsb_0))))) (by decide) (by decide)
  · refine xg_iconst dX11_link_15 (Eq.refl 16) ?_
    refine xg_goto (tgt := 20) dX11_link_16 (by decide) ?_
    exact xg_jump (gX11_link_20 hl x0 h0 x1 h1 x2 h2 x3 h3 1 (by decide) M4 hM4) (xsb_s (xsb_s (xsb_s (xsb_s (xsb_n xsb_0))))) (by decide) (by decide)
abbrev uX11_cycle : xU := (RX11, cX11_cycle, 2, (some .int), [], "cycle")
theorem bX11_cycle : xYV yX11_cycle cX11_cycle 2 (some .int) 0 := ⟨xq_634, xq_635, xq_2, xq_636, ⟨by decide +kernel, by decide +kernel, by decide +kernel⟩, by decide⟩
theorem mX11_cycle {l : Launch} {G : xG} (hl : l.stackTraces = false) (x0 : Nat) (h0 : xOb 11 x0) (M : xM) (hM : xcan M) : Cm l G yX11_cycle cX11_cycle 2 (some .int) 20 0 0 0 [.ref x0] M (fX11_cycle x0 M) := by
  refine xcm_of (u := uX11_cycle) (ls := [some (.ref x0), none]) 1 hl rfl (by decide +kernel) (Nat.le_of_ble_eq_true rfl) rfl ?_
  unfold fX11_cycle
  refine xg_aload_n dX11_cycle_0 (Eq.refl 1) rfl ?_
  refine xg_getR (k := 3) xcl11 h0 rfl xq_23 rfl (xt_11_3 h0).1 dX11_cycle_1 (Eq.refl 4) ?_
  refine xg_callV_N (kc := 0) (ks := 0) (st := []) (mX2_giveLoansBack hl (xr x0 3) (xt_11_3 h0).2 M hM) bX2_giveLoansBack xcl2 (xt_11_3 h0).2 rfl xq_637 rfl (by decide) rfl (by decide) dX11_cycle_4 (Eq.refl 7) rfl (by decide) (by decide) ?_
  intro z1 M2 hz1 hM2
  refine xg_aload_n dX11_cycle_7 (Eq.refl 8) rfl ?_
  refine xg_getR (k := 3) xcl11 h0 rfl xq_23 rfl (xt_11_3 h0).1 dX11_cycle_8 (Eq.refl 11) ?_
  refine xg_callV_J (kc := 0) (ks := 0) (st := []) (mX2_bestByBranches hl (xr x0 3) (xt_11_3 h0).2 M2 hM2) bX2_bestByBranches xcl2 (xt_11_3 h0).2 rfl xq_284 rfl (by decide) rfl (by decide) dX11_cycle_11 (Eq.refl 14) rfl (by decide) (by decide) ?_
  intro z3 M4 hz3 hM4
  refine xg_pop2l dX11_cycle_14 (Eq.refl 15) rfl ?_
  refine xg_aload_n dX11_cycle_15 (Eq.refl 16) rfl ?_
  refine xg_getR (k := 3) xcl11 h0 rfl xq_23 rfl (xt_11_3 h0).1 dX11_cycle_16 (Eq.refl 19) ?_
  refine xg_callV_I (kc := 0) (ks := 0) (st := []) (mX2_settleBestSet hl (xr x0 3) (xt_11_3 h0).2 M4 hM4) bX2_settleBestSet xcl2 (xt_11_3 h0).2 rfl xq_658 rfl (by decide) rfl (by decide) dX11_cycle_19 (Eq.refl 22) rfl (by decide) (by decide) ?_
  intro z5 M6 hz5 hM6
  refine xg_aload_n dX11_cycle_22 (Eq.refl 23) rfl ?_
  refine xg_getR (k := 3) xcl11 h0 rfl xq_23 rfl (xt_11_3 h0).1 dX11_cycle_23 (Eq.refl 26) ?_
  refine xg_callV_I (kc := 0) (ks := 0) (st := [iv z5]) (mX2_settleByLoans hl (xr x0 3) (xt_11_3 h0).2 M6 hM6) bX2_settleByLoans xcl2 (xt_11_3 h0).2 rfl xq_667 rfl (by decide) rfl (Nat.le_of_ble_eq_true rfl) dX11_cycle_26 (Eq.refl 29) rfl (by decide) (by decide) ?_
  intro z7 M8 hz7 hM8
  refine xg_iadd dX11_cycle_29 (Eq.refl 30) ?_
  refine xg_istore_nL (P := R32) (ls2 := fun y9 => [some (.ref x0), some (iv y9)]) dX11_cycle_30 (Eq.refl 31) (by decide) (w32_r _) (fun _ => rfl) ?_
  intro y9 hy9
  refine xg_aload_n dX11_cycle_31 (Eq.refl 32) rfl ?_
  refine xg_getR (k := 3) xcl11 h0 rfl xq_23 rfl (xt_11_3 h0).1 dX11_cycle_32 (Eq.refl 35) ?_
  refine xg_callV_N (kc := 0) (ks := 0) (st := []) (mX2_settleInPart hl (xr x0 3) (xt_11_3 h0).2 M8 hM8) bX2_settleInPart xcl2 (xt_11_3 h0).2 rfl xq_709 rfl (by decide) rfl (by decide) dX11_cycle_35 (Eq.refl 38) rfl (by decide) (by decide) ?_
  intro z10 M11 hz10 hM11
  refine xg_iload_n dX11_cycle_38 (Eq.refl 39) rfl ?_
  exact xg_iret rfl dX11_cycle_39 rfl hM11 hy9
abbrev uX11_best : xU := (RX11, cX11_best, 1, (some .long), [], "best")
theorem bX11_best : xYV yX11_best cX11_best 1 (some .long) 0 := ⟨xq_281, xq_282, xq_2, xq_283, ⟨by decide +kernel, by decide +kernel, by decide +kernel⟩, by decide⟩
theorem mX11_best {l : Launch} {G : xG} (hl : l.stackTraces = false) (x0 : Nat) (h0 : xOb 11 x0) (M : xM) (hM : xcan M) : Cm l G yX11_best cX11_best 1 (some .long) 20 2 0 0 [.ref x0] M (fX11_best x0 M) := by
  refine xcm_of (u := uX11_best) (ls := [some (.ref x0)]) 0 hl rfl (by decide +kernel) (Nat.le_of_ble_eq_true rfl) rfl ?_
  unfold fX11_best
  refine xg_aload_n dX11_best_0 (Eq.refl 1) rfl ?_
  refine xg_getR (k := 3) xcl11 h0 rfl xq_23 rfl (xt_11_3 h0).1 dX11_best_1 (Eq.refl 4) ?_
  refine xg_callV_J (kc := 0) (ks := 0) (st := []) (mX2_bestByBranches hl (xr x0 3) (xt_11_3 h0).2 M hM) bX2_bestByBranches xcl2 (xt_11_3 h0).2 rfl xq_284 rfl (by decide) rfl (by decide) dX11_best_4 (Eq.refl 7) rfl (by decide) (by decide) ?_
  intro z1 M2 hz1 hM2
  exact xg_lret rfl dX11_best_7 rfl hM2 hz1
abbrev uX11_bestByAll : xU := (RX11, cX11_bestByAll, 1, (some .long), [], "bestByAll")
theorem bX11_bestByAll : xYV yX11_bestByAll cX11_bestByAll 1 (some .long) 0 := ⟨xq_1023, xq_1024, xq_2, xq_1025, ⟨by decide +kernel, by decide +kernel, by decide +kernel⟩, by decide⟩
theorem mX11_bestByAll {l : Launch} {G : xG} (hl : l.stackTraces = false) (x0 : Nat) (h0 : xOb 11 x0) (M : xM) (hM : xcan M) : Cm l G yX11_bestByAll cX11_bestByAll 1 (some .long) 7 2 0 0 [.ref x0] M (fX11_bestByAll x0 M) := by
  refine xcm_of (u := uX11_bestByAll) (ls := [some (.ref x0)]) 0 hl rfl (by decide +kernel) (Nat.le_of_ble_eq_true rfl) rfl ?_
  unfold fX11_bestByAll
  refine xg_aload_n dX11_bestByAll_0 (Eq.refl 1) rfl ?_
  refine xg_getR (k := 3) xcl11 h0 rfl xq_23 rfl (xt_11_3 h0).1 dX11_bestByAll_1 (Eq.refl 4) ?_
  refine xg_callV_J (kc := 0) (ks := 0) (st := []) (mX2_bestOfAllSets hl (xr x0 3) (xt_11_3 h0).2 M hM) bX2_bestOfAllSets xcl2 (xt_11_3 h0).2 rfl xq_1026 rfl (by decide) rfl (by decide) dX11_bestByAll_4 (Eq.refl 7) rfl (by decide) (by decide) ?_
  intro z1 M2 hz1 hM2
  exact xg_lret rfl dX11_bestByAll_7 rfl hM2 hz1
abbrev uX11_endDay : xU := (RX11, cX11_endDay, 2, (some .int), [], "endDay")
theorem bX11_endDay : xYV yX11_endDay cX11_endDay 2 (some .int) 0 := ⟨xq_723, xq_724, xq_2, xq_725, ⟨by decide +kernel, by decide +kernel, by decide +kernel⟩, by decide⟩
theorem gX11_endDay_18 {l : Launch} {G : xG} (hl : l.stackTraces = false) (x0 : Nat) (h0 : xOb 11 x0) (s0 : Int) (hs0 : B01 s0) (M : xM) (hM : xcan M) : Gv l G uX11_endDay 8 0 1 6 18 [some (.ref x0), none] [iv s0] M (fX11_endDay_18 x0 s0 M) := by
  unfold fX11_endDay_18
  refine xg_callS_N (kc := 0) (ks := 0) (st := []) (mX11_needState hl s0 hs0 M hM) bX11_needState xq_162 rfl (by decide) rfl (by decide) dX11_endDay_18 (Eq.refl 21) rfl (by decide) (by decide) ?_
  intro z1 M2 hz1 hM2
  refine xg_aload_n dX11_endDay_21 (Eq.refl 22) rfl ?_
  refine xg_getR (k := 4) xcl11 h0 rfl xq_27 rfl (xt_11_4 h0).1 dX11_endDay_22 (Eq.refl 25) ?_
  refine xg_callV_N (kc := 0) (ks := 0) (st := []) (mX3_takeTurns hl (xr x0 4) (xt_11_4 h0).2 M2 hM2) bX3_takeTurns xcl3 (xt_11_4 h0).2 rfl xq_726 rfl (by decide) rfl (by decide) dX11_endDay_25 (Eq.refl 28) rfl (by decide) (by decide) ?_
  intro z3 M4 hz3 hM4
  refine xg_aload_n dX11_endDay_28 (Eq.refl 29) rfl ?_
  refine xg_getR (k := 4) xcl11 h0 rfl xq_27 rfl (xt_11_4 h0).1 dX11_endDay_29 (Eq.refl 32) ?_
  refine xg_callV_I (kc := 0) (ks := 0) (st := []) (mX3_tellFinesOfTrades hl (xr x0 4) (xt_11_4 h0).2 M4 hM4) bX3_tellFinesOfTrades xcl3 (xt_11_4 h0).2 rfl xq_856 rfl (by decide) rfl (by decide) dX11_endDay_32 (Eq.refl 35) rfl (by decide) (by decide) ?_
  intro z5 M6 hz5 hM6
  refine xg_aload_n dX11_endDay_35 (Eq.refl 36) rfl ?_
  refine xg_getR (k := 4) xcl11 h0 rfl xq_27 rfl (xt_11_4 h0).1 dX11_endDay_36 (Eq.refl 39) ?_
  refine xg_callV_I (kc := 0) (ks := 0) (st := [iv z5]) (mX3_tellFinesOfLoans hl (xr x0 4) (xt_11_4 h0).2 M6 hM6) bX3_tellFinesOfLoans xcl3 (xt_11_4 h0).2 rfl xq_888 rfl (by decide) rfl (Nat.le_of_ble_eq_true rfl) dX11_endDay_39 (Eq.refl 42) rfl (by decide) (by decide) ?_
  intro z7 M8 hz7 hM8
  refine xg_iadd dX11_endDay_42 (Eq.refl 43) ?_
  refine xg_istore_nL (P := R32) (ls2 := fun y9 => [some (.ref x0), some (iv y9)]) dX11_endDay_43 (Eq.refl 44) (by decide) (w32_r _) (fun _ => rfl) ?_
  intro y9 hy9
  refine xg_aload_n dX11_endDay_44 (Eq.refl 45) rfl ?_
  refine xg_getR (k := 4) xcl11 h0 rfl xq_27 rfl (xt_11_4 h0).1 dX11_endDay_45 (Eq.refl 48) ?_
  refine xg_callV_N (kc := 0) (ks := 0) (st := []) (mX3_growOlder hl (xr x0 4) (xt_11_4 h0).2 M8 hM8) bX3_growOlder xcl3 (xt_11_4 h0).2 rfl xq_896 rfl (by decide) rfl (by decide) dX11_endDay_48 (Eq.refl 51) rfl (by decide) (by decide) ?_
  intro z10 M11 hz10 hM11
  refine xg_aload_n dX11_endDay_51 (Eq.refl 52) rfl ?_
  refine xg_getR (k := 1) xcl11 h0 rfl xq_18 rfl (xt_11_1 h0).1 dX11_endDay_52 (Eq.refl 55) ?_
  refine xg_dup dX11_endDay_55 (Eq.refl 56) rfl ?_
  refine xg_getI (k := 16) xcl1 (xt_11_1 h0).2 rfl xq_274 rfl dX11_endDay_56 (Eq.refl 59) ?_
  refine xg_iconst dX11_endDay_59 (Eq.refl 60) ?_
  refine xg_iadd dX11_endDay_60 (Eq.refl 61) ?_
  refine xg_putI (k := 16) xcl1 (xt_11_1 h0).2 rfl xq_274 rfl (by decide +kernel) dX11_endDay_61 (Eq.refl 64) rfl hM11 (w32_r _) ?_
  intro M12 hM12
  refine xg_iload_n dX11_endDay_64 (Eq.refl 65) rfl ?_
  exact xg_iret rfl dX11_endDay_65 rfl hM12 hy9
theorem mX11_endDay {l : Launch} {G : xG} (hl : l.stackTraces = false) (x0 : Nat) (h0 : xOb 11 x0) (M : xM) (hM : xcan M) : Cm l G yX11_endDay cX11_endDay 2 (some .int) 8 0 1 6 [.ref x0] M (fX11_endDay x0 M) := by
  refine xcm_of (u := uX11_endDay) (ls := [some (.ref x0), none]) 1 hl rfl (by decide +kernel) (Nat.le_of_ble_eq_true rfl) rfl ?_
  unfold fX11_endDay
  refine xg_aload_n dX11_endDay_0 (Eq.refl 1) rfl ?_
  refine xg_getR (k := 1) xcl11 h0 rfl xq_18 rfl (xt_11_1 h0).1 dX11_endDay_1 (Eq.refl 4) ?_
  refine xg_getI (k := 16) xcl1 (xt_11_1 h0).2 rfl xq_274 rfl dX11_endDay_4 (Eq.refl 7) ?_
  refine xg_sipush dX11_endDay_7 (Eq.refl 10) (by decide +kernel) ?_
  refine xg_icmp_ge (tgt := 17) dX11_endDay_10 (Eq.refl 13) (by decide) (hM.I (xt_11_1 h0).2 rfl) (by decide) ?_ ?_
  · refine xg_iconst dX11_endDay_17 (Eq.refl 18) ?_
    exact xg_jump (gX11_endDay_18 hl x0 h0 0 (by decide) M hM) (xsb_s (xsb_n xsb_0)) (by decide) (by decide)
  · refine xg_iconst dX11_endDay_13 (Eq.refl 14) ?_
    refine xg_goto (tgt := 18) dX11_endDay_14 (by decide) ?_
    exact xg_jump (gX11_endDay_18 hl x0 h0 1 (by decide) M hM) (xsb_s (xsb_n xsb_0)) (by decide) (by decide)
abbrev uX11_today : xU := (RX11, cX11_today, 1, (some .int), [], "today")
theorem bX11_today : xYV yX11_today cX11_today 1 (some .int) 0 := ⟨xq_271, xq_272, xq_2, xq_273, ⟨by decide +kernel, by decide +kernel, by decide +kernel⟩, by decide⟩
theorem mX11_today {l : Launch} {G : xG} (hl : l.stackTraces = false) (x0 : Nat) (h0 : xOb 11 x0) (M : xM) (hM : xcan M) : Cm l G yX11_today cX11_today 1 (some .int) 1 0 0 0 [.ref x0] M (fX11_today x0 M) := by
  refine xcm_of (u := uX11_today) (ls := [some (.ref x0)]) 0 hl rfl (by decide +kernel) (Nat.le_of_ble_eq_true rfl) rfl ?_
  unfold fX11_today
  refine xg_aload_n dX11_today_0 (Eq.refl 1) rfl ?_
  refine xg_getR (k := 1) xcl11 h0 rfl xq_18 rfl (xt_11_1 h0).1 dX11_today_1 (Eq.refl 4) ?_
  refine xg_getI (k := 16) xcl1 (xt_11_1 h0).2 rfl xq_274 rfl dX11_today_4 (Eq.refl 7) ?_
  exact xg_iret rfl dX11_today_7 rfl hM (hM.I (xt_11_1 h0).2 rfl)
abbrev uX11_needLoan : xU := (RX11, cX11_needLoan, 2, none, [], "needLoan")
theorem bX11_needLoan : xYV yX11_needLoan cX11_needLoan 2 none 1 := ⟨xq_597, xq_598, xq_2, xq_599, ⟨by decide +kernel, by decide +kernel, by decide +kernel⟩, by decide⟩
theorem mX11_needLoan {l : Launch} {G : xG} (hl : l.stackTraces = false) (x0 : Nat) (h0 : xOb 11 x0) (x1 : Int) (h1 : R32 x1) (M : xM) (hM : xcan M) : Cm l G yX11_needLoan cX11_needLoan 2 none 2 3 1 6 [.ref x0, iv x1] M (fX11_needLoan x0 x1 M) := by
  refine xcm_of (u := uX11_needLoan) (ls := [some (.ref x0), some (iv x1)]) 0 hl rfl (by decide +kernel) (Nat.le_of_ble_eq_true rfl) rfl ?_
  unfold fX11_needLoan
  refine xg_iload_n dX11_needLoan_0 (Eq.refl 1) rfl ?_
  refine xg_aload_n dX11_needLoan_1 (Eq.refl 2) rfl ?_
  refine xg_getR (k := 1) xcl11 h0 rfl xq_18 rfl (xt_11_1 h0).1 dX11_needLoan_2 (Eq.refl 5) ?_
  refine xg_getI (k := 14) xcl1 (xt_11_1 h0).2 rfl xq_279 rfl dX11_needLoan_5 (Eq.refl 8) ?_
  refine xg_callS_N (kc := 0) (ks := 0) (st := []) (mX11_needIndex hl x1 h1 (M (xr x0 1) 14) (hM.I (xt_11_1 h0).2 rfl) M hM) bX11_needIndex xq_145 rfl (by decide) rfl (by decide) dX11_needLoan_8 (Eq.refl 11) rfl (by decide) (by decide) ?_
  intro z1 M2 hz1 hM2
  exact xg_vret rfl dX11_needLoan_11 rfl hM2
abbrev uX11_recall : xU := (RX11, cX11_recall, 3, (some .long), [], "recall")
theorem bX11_recall : xYV yX11_recall cX11_recall 3 (some .long) 1 := ⟨xq_590, xq_591, xq_2, xq_592, ⟨by decide +kernel, by decide +kernel, by decide +kernel⟩, by decide⟩
theorem gX11_recall_33 {l : Launch} {G : xG} (hl : l.stackTraces = false) (x2 : Nat) (h2 : xOb 7 x2) (s0 : Int) (hs0 : B01 s0) (M : xM) (hM : xcan M) : Gv l G uX11_recall 3 2 1 6 33 [none, none, some (.ref x2)] [iv s0] M (fX11_recall_33 x2 s0 M) := by
  unfold fX11_recall_33
  refine xg_callS_N (kc := 0) (ks := 0) (st := []) (mX11_needState hl s0 hs0 M hM) bX11_needState xq_162 rfl (by decide) rfl (by decide) dX11_recall_33 (Eq.refl 36) rfl (by decide) (by decide) ?_
  intro z1 M2 hz1 hM2
  refine xg_aload_n dX11_recall_36 (Eq.refl 37) rfl ?_
  refine xg_iconst dX11_recall_37 (Eq.refl 38) ?_
  refine xg_putZ (k := 5) xcl7 h2 rfl xq_594 rfl (by decide +kernel) dX11_recall_38 (Eq.refl 41) rfl hM2 (by decide) ?_
  intro M3 hM3
  refine xg_aload_n dX11_recall_41 (Eq.refl 42) rfl ?_
  refine xg_getJ (k := 3) xcl7 h2 rfl xq_595 rfl dX11_recall_42 (Eq.refl 45) ?_
  exact xg_lret rfl dX11_recall_45 rfl hM3 (hM3.J h2 rfl)
theorem gX11_recall_32 {l : Launch} {G : xG} (hl : l.stackTraces = false) (x2 : Nat) (h2 : xOb 7 x2) (M : xM) (hM : xcan M) : Gv l G uX11_recall 3 2 1 6 32 [none, none, some (.ref x2)] [] M (fX11_recall_32 x2 M) := by
  unfold fX11_recall_32
  refine xg_iconst dX11_recall_32 (Eq.refl 33) ?_
  exact xg_jump (gX11_recall_33 hl x2 h2 0 (by decide) M hM) (xsb_n (xsb_n (xsb_s xsb_0))) (by decide) (by decide)
theorem mX11_recall {l : Launch} {G : xG} (hl : l.stackTraces = false) (x0 : Nat) (h0 : xOb 11 x0) (x1 : Int) (h1 : R32 x1) (M : xM) (hM : xcan M) : Cm l G yX11_recall cX11_recall 3 (some .long) 3 2 2 12 [.ref x0, iv x1] M (fX11_recall x0 x1 M) := by
  refine xcm_of (u := uX11_recall) (ls := [some (.ref x0), some (iv x1), none]) 1 hl rfl (by decide +kernel) (Nat.le_of_ble_eq_true rfl) rfl ?_
  unfold fX11_recall
  refine xg_aload_n dX11_recall_0 (Eq.refl 1) rfl ?_
  refine xg_iload_n dX11_recall_1 (Eq.refl 2) rfl ?_
  refine xg_callV_N (kc := 1) (ks := 6) (st := []) (mX11_needLoan hl x0 h0 x1 h1 M hM) bX11_needLoan xcl11 h0 rfl xq_596 rfl (by decide) rfl (by decide) dX11_recall_2 (Eq.refl 5) rfl (by decide) (by decide) ?_
  intro z1 M2 hz1 hM2
  refine xg_aload_n dX11_recall_5 (Eq.refl 6) rfl ?_
  refine xg_getR (k := 1) xcl11 h0 rfl xq_18 rfl (xt_11_1 h0).1 dX11_recall_6 (Eq.refl 9) ?_
  refine xg_iload_n dX11_recall_9 (Eq.refl 10) rfl ?_
  refine xg_callV_R (cr := 7) (kc := 1) (ks := 6) (st := []) (mX1_loanAt hl (xr x0 1) (xt_11_1 h0).2 x1 h1 M2 hM2) bX1_loanAt xcl1 (xt_11_1 h0).2 rfl xq_600 rfl (by decide) rfl (by decide) dX11_recall_10 (Eq.refl 13) rfl (by decide) (by decide) ?_
  intro z3 M4 hz3 hM4
  refine xg_astore_n (ls2 := [some (.ref x0), some (iv x1), some (.ref z3.toNat)]) dX11_recall_13 (Eq.refl 14) (by decide) rfl ?_
  refine xg_aload_n dX11_recall_14 (Eq.refl 15) rfl ?_
  refine xg_getZ (k := 6) xcl7 hz3 rfl xq_593 rfl dX11_recall_15 (Eq.refl 18) hM4 ?_
  refine xg_if_ne (tgt := 32) dX11_recall_18 (Eq.refl 21) (by decide) (B01.r (hM4.Z hz3 rfl)) ?_ ?_
  · refine xg_aload_n dX11_recall_21 (Eq.refl 22) rfl ?_
    refine xg_getZ (k := 5) xcl7 hz3 rfl xq_594 rfl dX11_recall_22 (Eq.refl 25) hM4 ?_
    refine xg_if_ne (tgt := 32) dX11_recall_25 (Eq.refl 28) (by decide) (B01.r (hM4.Z hz3 rfl)) ?_ ?_
    · refine xg_iconst dX11_recall_28 (Eq.refl 29) ?_
      refine xg_goto (tgt := 33) dX11_recall_29 (by decide) ?_
      exact xg_jump (gX11_recall_33 hl z3.toNat hz3 1 (by decide) M4 hM4) (xsb_n (xsb_n (xsb_s xsb_0))) (by decide) (by decide)
    · exact xg_jump (gX11_recall_32 hl z3.toNat hz3 M4 hM4) (xsb_n (xsb_n (xsb_s xsb_0))) (by decide) (by decide)
  · exact xg_jump (gX11_recall_32 hl z3.toNat hz3 M4 hM4) (xsb_n (xsb_n (xsb_s xsb_0))) (by decide) (by decide)
abbrev uX11_keep : xU := (RX11, cX11_keep, 1, (some .int), [], "keep")
theorem bX11_keep : xYV yX11_keep cX11_keep 1 (some .int) 0 := ⟨xq_908, xq_909, xq_2, xq_910, ⟨by decide +kernel, by decide +kernel, by decide +kernel⟩, by decide⟩
theorem mX11_keep {l : Launch} {G : xG} (hl : l.stackTraces = false) (x0 : Nat) (h0 : xOb 11 x0) (M : xM) (hM : xcan M) : Cm l G yX11_keep cX11_keep 1 (some .int) 4 0 0 0 [.ref x0] M (fX11_keep x0 M) := by
  refine xcm_of (u := uX11_keep) (ls := [some (.ref x0)]) 0 hl rfl (by decide +kernel) (Nat.le_of_ble_eq_true rfl) rfl ?_
  unfold fX11_keep
  refine xg_aload_n dX11_keep_0 (Eq.refl 1) rfl ?_
  refine xg_getR (k := 2) xcl11 h0 rfl xq_19 rfl (xt_11_2 h0).1 dX11_keep_1 (Eq.refl 4) ?_
  refine xg_aload_n dX11_keep_4 (Eq.refl 5) rfl ?_
  refine xg_getR (k := 1) xcl11 h0 rfl xq_18 rfl (xt_11_1 h0).1 dX11_keep_5 (Eq.refl 8) ?_
  refine xg_callV_N (kc := 0) (ks := 0) (st := []) (mX1_copyFrom hl (xr x0 2) (xt_11_2 h0).2 (xr x0 1) (xt_11_1 h0).2 M hM) bX1_copyFrom xcl1 (xt_11_2 h0).2 rfl xq_911 rfl (by decide) rfl (by decide) dX11_keep_8 (Eq.refl 11) rfl (by decide) (by decide) ?_
  intro z1 M2 hz1 hM2
  refine xg_aload_n dX11_keep_11 (Eq.refl 12) rfl ?_
  refine xg_iconst dX11_keep_12 (Eq.refl 13) ?_
  refine xg_putZ (k := 5) xcl11 h0 rfl xq_28 rfl (by decide +kernel) dX11_keep_13 (Eq.refl 16) rfl hM2 (by decide) ?_
  intro M3 hM3
  refine xg_aload_n dX11_keep_16 (Eq.refl 17) rfl ?_
  refine xg_getR (k := 1) xcl11 h0 rfl xq_18 rfl (xt_11_1 h0).1 dX11_keep_17 (Eq.refl 20) ?_
  refine xg_getI (k := 16) xcl1 (xt_11_1 h0).2 rfl xq_274 rfl dX11_keep_20 (Eq.refl 23) ?_
  exact xg_iret rfl dX11_keep_23 rfl hM3 (hM3.I (xt_11_1 h0).2 rfl)
abbrev uX11_goBack : xU := (RX11, cX11_goBack, 1, (some .int), [], "goBack")
theorem bX11_goBack : xYV yX11_goBack cX11_goBack 1 (some .int) 0 := ⟨xq_996, xq_997, xq_2, xq_998, ⟨by decide +kernel, by decide +kernel, by decide +kernel⟩, by decide⟩
theorem mX11_goBack {l : Launch} {G : xG} (hl : l.stackTraces = false) (x0 : Nat) (h0 : xOb 11 x0) (M : xM) (hM : xcan M) : Cm l G yX11_goBack cX11_goBack 1 (some .int) 4 0 1 6 [.ref x0] M (fX11_goBack x0 M) := by
  refine xcm_of (u := uX11_goBack) (ls := [some (.ref x0)]) 0 hl rfl (by decide +kernel) (Nat.le_of_ble_eq_true rfl) rfl ?_
  unfold fX11_goBack
  refine xg_aload_n dX11_goBack_0 (Eq.refl 1) rfl ?_
  refine xg_getZ (k := 5) xcl11 h0 rfl xq_28 rfl dX11_goBack_1 (Eq.refl 4) hM ?_
  refine xg_callS_N (kc := 0) (ks := 0) (st := []) (mX11_needState hl (M x0 5) (hM.Z h0 rfl) M hM) bX11_needState xq_162 rfl (by decide) rfl (by decide) dX11_goBack_4 (Eq.refl 7) rfl (by decide) (by decide) ?_
  intro z1 M2 hz1 hM2
  refine xg_aload_n dX11_goBack_7 (Eq.refl 8) rfl ?_
  refine xg_getR (k := 1) xcl11 h0 rfl xq_18 rfl (xt_11_1 h0).1 dX11_goBack_8 (Eq.refl 11) ?_
  refine xg_aload_n dX11_goBack_11 (Eq.refl 12) rfl ?_
  refine xg_getR (k := 2) xcl11 h0 rfl xq_19 rfl (xt_11_2 h0).1 dX11_goBack_12 (Eq.refl 15) ?_
  refine xg_callV_N (kc := 0) (ks := 0) (st := []) (mX1_copyFrom hl (xr x0 1) (xt_11_1 h0).2 (xr x0 2) (xt_11_2 h0).2 M2 hM2) bX1_copyFrom xcl1 (xt_11_1 h0).2 rfl xq_911 rfl (by decide) rfl (by decide) dX11_goBack_15 (Eq.refl 18) rfl (by decide) (by decide) ?_
  intro z3 M4 hz3 hM4
  refine xg_aload_n dX11_goBack_18 (Eq.refl 19) rfl ?_
  refine xg_getR (k := 1) xcl11 h0 rfl xq_18 rfl (xt_11_1 h0).1 dX11_goBack_19 (Eq.refl 22) ?_
  refine xg_getI (k := 16) xcl1 (xt_11_1 h0).2 rfl xq_274 rfl dX11_goBack_22 (Eq.refl 25) ?_
  exact xg_iret rfl dX11_goBack_25 rfl hM4 (hM4.I (xt_11_1 h0).2 rfl)
abbrev uX11_announce : xU := (RX11, cX11_announce, 10, (some .int), [], "announce")
theorem bX11_announce : xYV yX11_announce cX11_announce 10 (some .int) 7 := ⟨xq_608, xq_609, xq_2, xq_610, ⟨by decide +kernel, by decide +kernel, by decide +kernel⟩, by decide⟩
theorem gX11_announce_104 {l : Launch} {G : xG} (hl : l.stackTraces = false) (x0 : Nat) (h0 : xOb 11 x0) (x1 : Int) (h1 : R32 x1) (x2 : Int) (h2 : R32 x2) (x3 : Int) (h3 : R32 x3) (x4 : Int) (h4 : R32 x4) (x5 : Int) (h5 : R32 x5) (x6 : Int) (h6 : R32 x6) (x7 : Int) (h7 : R32 x7) (s0 : Int) (hs0 : B01 s0) (M : xM) (hM : xcan M) : Gv l G uX11_announce 3 0 1 6 104 [some (.ref x0), some (iv x1), some (iv x2), some (iv x3), some (iv x4), some (iv x5), some (iv x6), some (iv x7), none, none] [iv s0] M (fX11_announce_104 x0 x1 x2 x3 x4 x5 x6 x7 s0 M) := by
  unfold fX11_announce_104
  refine xg_callS_N (kc := 0) (ks := 0) (st := []) (mX11_needState hl s0 hs0 M hM) bX11_needState xq_162 rfl (by decide) rfl (by decide) dX11_announce_104 (Eq.refl 107) rfl (by decide) (by decide) ?_
  intro z1 M2 hz1 hM2
  refine xg_aload_n dX11_announce_107 (Eq.refl 108) rfl ?_
  refine xg_getR (k := 1) xcl11 h0 rfl xq_18 rfl (xt_11_1 h0).1 dX11_announce_108 (Eq.refl 111) ?_
  refine xg_getI (k := 15) xcl1 (xt_11_1 h0).2 rfl xq_611 rfl dX11_announce_111 (Eq.refl 114) ?_
  refine xg_istore (ls2 := [some (.ref x0), some (iv x1), some (iv x2), some (iv x3), some (iv x4), some (iv x5), some (iv x6), some (iv x7), some (iv (M2 (xr x0 1) 15)), none]) dX11_announce_114 (Eq.refl 116) (by decide) rfl ?_
  refine xg_aload_n dX11_announce_116 (Eq.refl 117) rfl ?_
  refine xg_getR (k := 1) xcl11 h0 rfl xq_18 rfl (xt_11_1 h0).1 dX11_announce_117 (Eq.refl 120) ?_
  refine xg_iload dX11_announce_120 (Eq.refl 122) rfl ?_
  refine xg_callV_R (cr := 4) (kc := 0) (ks := 0) (st := []) (mX1_event hl (xr x0 1) (xt_11_1 h0).2 (M2 (xr x0 1) 15) (hM2.I (xt_11_1 h0).2 rfl) M2 hM2) bX1_event xcl1 (xt_11_1 h0).2 rfl xq_619 rfl (by decide) rfl (by decide) dX11_announce_122 (Eq.refl 125) rfl (by decide) (by decide) ?_
  intro z3 M4 hz3 hM4
  refine xg_astore (ls2 := [some (.ref x0), some (iv x1), some (iv x2), some (iv x3), some (iv x4), some (iv x5), some (iv x6), some (iv x7), some (iv (M2 (xr x0 1) 15)), some (.ref z3.toNat)]) dX11_announce_125 (Eq.refl 127) (by decide) rfl ?_
  refine xg_aload dX11_announce_127 (Eq.refl 129) rfl ?_
  refine xg_iload_n dX11_announce_129 (Eq.refl 130) rfl ?_
  refine xg_putI (k := 0) xcl4 hz3 rfl xq_612 rfl (by decide +kernel) dX11_announce_130 (Eq.refl 133) rfl hM4 h1 ?_
  intro M5 hM5
  refine xg_aload dX11_announce_133 (Eq.refl 135) rfl ?_
  refine xg_iload_n dX11_announce_135 (Eq.refl 136) rfl ?_
  refine xg_putI (k := 1) xcl4 hz3 rfl xq_613 rfl (by decide +kernel) dX11_announce_136 (Eq.refl 139) rfl hM5 h2 ?_
  intro M6 hM6
  refine xg_aload dX11_announce_139 (Eq.refl 141) rfl ?_
  refine xg_iload_n dX11_announce_141 (Eq.refl 142) rfl ?_
  refine xg_putI (k := 2) xcl4 hz3 rfl xq_614 rfl (by decide +kernel) dX11_announce_142 (Eq.refl 145) rfl hM6 h3 ?_
  intro M7 hM7
  refine xg_aload dX11_announce_145 (Eq.refl 147) rfl ?_
  refine xg_iload dX11_announce_147 (Eq.refl 149) rfl ?_
  refine xg_putI (k := 3) xcl4 hz3 rfl xq_615 rfl (by decide +kernel) dX11_announce_149 (Eq.refl 152) rfl hM7 h4 ?_
  intro M8 hM8
  refine xg_aload dX11_announce_152 (Eq.refl 154) rfl ?_
  refine xg_iload dX11_announce_154 (Eq.refl 156) rfl ?_
  refine xg_putI (k := 4) xcl4 hz3 rfl xq_616 rfl (by decide +kernel) dX11_announce_156 (Eq.refl 159) rfl hM8 h5 ?_
  intro M9 hM9
  refine xg_aload dX11_announce_159 (Eq.refl 161) rfl ?_
  refine xg_iload dX11_announce_161 (Eq.refl 163) rfl ?_
  refine xg_putI (k := 5) xcl4 hz3 rfl xq_617 rfl (by decide +kernel) dX11_announce_163 (Eq.refl 166) rfl hM9 h6 ?_
  intro M10 hM10
  refine xg_aload dX11_announce_166 (Eq.refl 168) rfl ?_
  refine xg_iload dX11_announce_168 (Eq.refl 170) rfl ?_
  refine xg_putI (k := 6) xcl4 hz3 rfl xq_618 rfl (by decide +kernel) dX11_announce_170 (Eq.refl 173) rfl hM10 h7 ?_
  intro M11 hM11
  refine xg_aload_n dX11_announce_173 (Eq.refl 174) rfl ?_
  refine xg_getR (k := 1) xcl11 h0 rfl xq_18 rfl (xt_11_1 h0).1 dX11_announce_174 (Eq.refl 177) ?_
  refine xg_iload dX11_announce_177 (Eq.refl 179) rfl ?_
  refine xg_iconst dX11_announce_179 (Eq.refl 180) ?_
  refine xg_iadd dX11_announce_180 (Eq.refl 181) ?_
  refine xg_putI (k := 15) xcl1 (xt_11_1 h0).2 rfl xq_611 rfl (by decide +kernel) dX11_announce_181 (Eq.refl 184) rfl hM11 (w32_r _) ?_
  intro M12 hM12
  refine xg_iload dX11_announce_184 (Eq.refl 186) rfl ?_
  exact xg_iret rfl dX11_announce_186 rfl hM12 (hM2.I (xt_11_1 h0).2 rfl)
theorem gX11_announce_62 {l : Launch} {G : xG} (hl : l.stackTraces = false) (x0 : Nat) (h0 : xOb 11 x0) (x1 : Int) (h1 : R32 x1) (x2 : Int) (h2 : R32 x2) (x3 : Int) (h3 : R32 x3) (x4 : Int) (h4 : R32 x4) (x5 : Int) (h5 : R32 x5) (x6 : Int) (h6 : R32 x6) (x7 : Int) (h7 : R32 x7) (M : xM) (hM : xcan M) : Gv l G uX11_announce 3 0 3 18 62 [some (.ref x0), some (iv x1), some (iv x2), some (iv x3), some (iv x4), some (iv x5), some (iv x6), some (iv x7), none, none] [] M (fX11_announce_62 x0 x1 x2 x3 x4 x5 x6 x7 M) := by
  unfold fX11_announce_62
  refine xg_iload dX11_announce_62 (Eq.refl 64) rfl ?_
  refine xg_aload_n dX11_announce_64 (Eq.refl 65) rfl ?_
  refine xg_getR (k := 1) xcl11 h0 rfl xq_18 rfl (xt_11_1 h0).1 dX11_announce_65 (Eq.refl 68) ?_
  refine xg_getI (k := 16) xcl1 (xt_11_1 h0).2 rfl xq_274 rfl dX11_announce_68 (Eq.refl 71) ?_
  refine xg_sipush dX11_announce_71 (Eq.refl 74) (by decide +kernel) ?_
  refine xg_callS_N (kc := 2) (ks := 12) (st := []) (mX11_needRange hl x6 h6 (M (xr x0 1) 16) (hM.I (xt_11_1 h0).2 rfl) 2000 (by decide) M hM) bX11_needRange xq_150 rfl (by decide) rfl (by decide) dX11_announce_74 (Eq.refl 77) rfl (by decide) (by decide) ?_
  intro z1 M2 hz1 hM2
  refine xg_iload dX11_announce_77 (Eq.refl 79) rfl ?_
  refine xg_iload dX11_announce_79 (Eq.refl 81) rfl ?_
  refine xg_sipush dX11_announce_81 (Eq.refl 84) (by decide +kernel) ?_
  refine xg_callS_N (kc := 1) (ks := 6) (st := []) (mX11_needRange hl x7 h7 x6 h6 2000 (by decide) M2 hM2) bX11_needRange xq_150 rfl (by decide) rfl (by decide) dX11_announce_84 (Eq.refl 87) rfl (by decide) (by decide) ?_
  intro z3 M4 hz3 hM4
  refine xg_aload_n dX11_announce_87 (Eq.refl 88) rfl ?_
  refine xg_getR (k := 1) xcl11 h0 rfl xq_18 rfl (xt_11_1 h0).1 dX11_announce_88 (Eq.refl 91) ?_
  refine xg_getI (k := 15) xcl1 (xt_11_1 h0).2 rfl xq_611 rfl dX11_announce_91 (Eq.refl 94) ?_
  refine xg_bipush dX11_announce_94 (Eq.refl 96) (by decide +kernel) ?_
  refine xg_icmp_ge (tgt := 103) dX11_announce_96 (Eq.refl 99) (by decide) (hM4.I (xt_11_1 h0).2 rfl) (by decide) ?_ ?_
  · refine xg_iconst dX11_announce_103 (Eq.refl 104) ?_
    exact xg_jump (gX11_announce_104 hl x0 h0 x1 h1 x2 h2 x3 h3 x4 h4 x5 h5 x6 h6 x7 h7 0 (by decide) M4 hM4) (xsb_s (xsb_s (xsb_s (xsb_s (xsb_s (xsb_s (xsb_s (xsb_s (xsb_n (xsb_n xsb_0)))))))))) (by decide) (by decide)
  · refine xg_iconst dX11_announce_99 (Eq.refl 100) ?_
    refine xg_goto (tgt := 104) dX11_announce_100 (by decide) ?_
    exact xg_jump (gX11_announce_104 hl x0 h0 x1 h1 x2 h2 x3 h3 x4 h4 x5 h5 x6 h6 x7 h7 1 (by decide) M4 hM4) (xsb_s (xsb_s (xsb_s (xsb_s (xsb_s (xsb_s (xsb_s (xsb_s (xsb_n (xsb_n xsb_0)))))))))) (by decide) (by decide)
theorem gX11_announce_49 {l : Launch} {G : xG} (hl : l.stackTraces = false) (x0 : Nat) (h0 : xOb 11 x0) (x1 : Int) (h1 : R32 x1) (x2 : Int) (h2 : R32 x2) (x3 : Int) (h3 : R32 x3) (x4 : Int) (h4 : R32 x4) (x5 : Int) (h5 : R32 x5) (x6 : Int) (h6 : R32 x6) (x7 : Int) (h7 : R32 x7) (M : xM) (hM : xcan M) : Gv l G uX11_announce 3 0 4 24 49 [some (.ref x0), some (iv x1), some (iv x2), some (iv x3), some (iv x4), some (iv x5), some (iv x6), some (iv x7), none, none] [] M (fX11_announce_49 x0 x1 x2 x3 x4 x5 x6 x7 M) := by
  unfold fX11_announce_49
  refine xg_iload_n dX11_announce_49 (Eq.refl 50) rfl ?_
  refine xg_iconst dX11_announce_50 (Eq.refl 51) ?_
  refine xg_icmp_ne (tgt := 62) dX11_announce_51 (Eq.refl 54) (by decide) h1 (by decide) ?_ ?_
  · refine xg_iload dX11_announce_54 (Eq.refl 56) rfl ?_
    refine xg_iconst dX11_announce_56 (Eq.refl 57) ?_
    refine xg_ldc (z := 100000) xq_179 dX11_announce_57 (Eq.refl 59) (by decide +kernel) ?_
    refine xg_callS_N (kc := 3) (ks := 18) (st := []) (mX11_needRange hl x5 h5 0 (by decide) 100000 (by decide) M hM) bX11_needRange xq_150 rfl (by decide) rfl (by decide) dX11_announce_59 (Eq.refl 62) rfl (by decide) (by decide) ?_
    intro z1 M2 hz1 hM2
    exact xg_jump (gX11_announce_62 hl x0 h0 x1 h1 x2 h2 x3 h3 x4 h4 x5 h5 x6 h6 x7 h7 M2 hM2) (xsb_s (xsb_s (xsb_s (xsb_s (xsb_s (xsb_s (xsb_s (xsb_s (xsb_n (xsb_n xsb_0)))))))))) (by decide) (by decide)
  · exact xg_jump (gX11_announce_62 hl x0 h0 x1 h1 x2 h2 x3 h3 x4 h4 x5 h5 x6 h6 x7 h7 M hM) (xsb_s (xsb_s (xsb_s (xsb_s (xsb_s (xsb_s (xsb_s (xsb_s (xsb_n (xsb_n xsb_0)))))))))) (by decide) (by decide)
theorem gX11_announce_46 {l : Launch} {G : xG} (hl : l.stackTraces = false) (x0 : Nat) (h0 : xOb 11 x0) (x1 : Int) (h1 : R32 x1) (x2 : Int) (h2 : R32 x2) (x3 : Int) (h3 : R32 x3) (x4 : Int) (h4 : R32 x4) (x5 : Int) (h5 : R32 x5) (x6 : Int) (h6 : R32 x6) (x7 : Int) (h7 : R32 x7) (s0 : Int) (hs0 : R32 s0) (s1 : Int) (hs1 : B01 s1) (s2 : Int) (hs2 : R32 s2) (M : xM) (hM : xcan M) : Gv l G uX11_announce 3 0 5 30 46 [some (.ref x0), some (iv x1), some (iv x2), some (iv x3), some (iv x4), some (iv x5), some (iv x6), some (iv x7), none, none] [iv s0, iv s1, iv s2] M (fX11_announce_46 x0 x1 x2 x3 x4 x5 x6 x7 s0 s1 s2 M) := by
  unfold fX11_announce_46
  refine xg_callS_N (kc := 4) (ks := 24) (st := []) (mX11_needRange hl s2 hs2 s1 (B01.r hs1) s0 hs0 M hM) bX11_needRange xq_150 rfl (by decide) rfl (by decide) dX11_announce_46 (Eq.refl 49) rfl (by decide) (by decide) ?_
  intro z1 M2 hz1 hM2
  exact xg_jump (gX11_announce_49 hl x0 h0 x1 h1 x2 h2 x3 h3 x4 h4 x5 h5 x6 h6 x7 h7 M2 hM2) (xsb_s (xsb_s (xsb_s (xsb_s (xsb_s (xsb_s (xsb_s (xsb_s (xsb_n (xsb_n xsb_0)))))))))) (by decide) (by decide)
theorem gX11_announce_25 {l : Launch} {G : xG} (hl : l.stackTraces = false) (x0 : Nat) (h0 : xOb 11 x0) (x1 : Int) (h1 : R32 x1) (x2 : Int) (h2 : R32 x2) (x3 : Int) (h3 : R32 x3) (x4 : Int) (h4 : R32 x4) (x5 : Int) (h5 : R32 x5) (x6 : Int) (h6 : R32 x6) (x7 : Int) (h7 : R32 x7) (s0 : Int) (hs0 : R32 s0) (s1 : Int) (hs1 : B01 s1) (s2 : Int) (hs2 : R32 s2) (M : xM) (hM : xcan M) : Gv l G uX11_announce 3 0 6 36 25 [some (.ref x0), some (iv x1), some (iv x2), some (iv x3), some (iv x4), some (iv x5), some (iv x6), some (iv x7), none, none] [iv s0, iv s1, iv s2] M (fX11_announce_25 x0 x1 x2 x3 x4 x5 x6 x7 s0 s1 s2 M) := by
  unfold fX11_announce_25
  refine xg_callS_N (kc := 5) (ks := 30) (st := []) (mX11_needRange hl s2 hs2 s1 (B01.r hs1) s0 hs0 M hM) bX11_needRange xq_150 rfl (by decide) rfl (by decide) dX11_announce_25 (Eq.refl 28) rfl (by decide) (by decide) ?_
  intro z1 M2 hz1 hM2
  refine xg_iload_n dX11_announce_28 (Eq.refl 29) rfl ?_
  refine xg_if_eq (tgt := 49) dX11_announce_29 (Eq.refl 32) (by decide) h1 ?_ ?_
  · exact xg_jump (gX11_announce_49 hl x0 h0 x1 h1 x2 h2 x3 h3 x4 h4 x5 h5 x6 h6 x7 h7 M2 hM2) (xsb_s (xsb_s (xsb_s (xsb_s (xsb_s (xsb_s (xsb_s (xsb_s (xsb_n (xsb_n xsb_0)))))))))) (by decide) (by decide)
  · refine xg_iload dX11_announce_32 (Eq.refl 34) rfl ?_
    refine xg_iconst dX11_announce_34 (Eq.refl 35) ?_
    refine xg_iload_n dX11_announce_35 (Eq.refl 36) rfl ?_
    refine xg_iconst dX11_announce_36 (Eq.refl 37) ?_
    refine xg_icmp_ne (tgt := 44) dX11_announce_37 (Eq.refl 40) (by decide) h1 (by decide) ?_ ?_
    · refine xg_iconst dX11_announce_40 (Eq.refl 41) ?_
      refine xg_goto (tgt := 46) dX11_announce_41 (by decide) ?_
      exact xg_jump (gX11_announce_46 hl x0 h0 x1 h1 x2 h2 x3 h3 x4 h4 x5 h5 x6 h6 x7 h7 3 (by decide) 1 (by decide) x4 h4 M2 hM2) (xsb_s (xsb_s (xsb_s (xsb_s (xsb_s (xsb_s (xsb_s (xsb_s (xsb_n (xsb_n xsb_0)))))))))) (by decide) (by decide)
    · refine xg_bipush dX11_announce_44 (Eq.refl 46) (by decide +kernel) ?_
      exact xg_jump (gX11_announce_46 hl x0 h0 x1 h1 x2 h2 x3 h3 x4 h4 x5 h5 x6 h6 x7 h7 10 (by decide) 1 (by decide) x4 h4 M2 hM2) (xsb_s (xsb_s (xsb_s (xsb_s (xsb_s (xsb_s (xsb_s (xsb_s (xsb_n (xsb_n xsb_0)))))))))) (by decide) (by decide)
theorem mX11_announce {l : Launch} {G : xG} (hl : l.stackTraces = false) (x0 : Nat) (h0 : xOb 11 x0) (x1 : Int) (h1 : R32 x1) (x2 : Int) (h2 : R32 x2) (x3 : Int) (h3 : R32 x3) (x4 : Int) (h4 : R32 x4) (x5 : Int) (h5 : R32 x5) (x6 : Int) (h6 : R32 x6) (x7 : Int) (h7 : R32 x7) (M : xM) (hM : xcan M) : Cm l G yX11_announce cX11_announce 10 (some .int) 3 0 8 48 [.ref x0, iv x1, iv x2, iv x3, iv x4, iv x5, iv x6, iv x7] M (fX11_announce x0 x1 x2 x3 x4 x5 x6 x7 M) := by
  refine xcm_of (u := uX11_announce) (ls := [some (.ref x0), some (iv x1), some (iv x2), some (iv x3), some (iv x4), some (iv x5), some (iv x6), some (iv x7), none, none]) 2 hl rfl (by decide +kernel) (Nat.le_of_ble_eq_true rfl) rfl ?_
  unfold fX11_announce
  refine xg_aload_n dX11_announce_0 (Eq.refl 1) rfl ?_
  refine xg_iload_n dX11_announce_1 (Eq.refl 2) rfl ?_
  refine xg_callV_N (kc := 7) (ks := 42) (st := []) (mX11_needSecurity hl x0 h0 x2 h2 M hM) bX11_needSecurity xcl11 h0 rfl xq_221 rfl (by decide) rfl (by decide) dX11_announce_2 (Eq.refl 5) rfl (by decide) (by decide) ?_
  intro z1 M2 hz1 hM2
  refine xg_iload_n dX11_announce_5 (Eq.refl 6) rfl ?_
  refine xg_iconst dX11_announce_6 (Eq.refl 7) ?_
  refine xg_iconst dX11_announce_7 (Eq.refl 8) ?_
  refine xg_callS_N (kc := 6) (ks := 36) (st := []) (mX11_needRange hl x1 h1 0 (by decide) 2 (by decide) M2 hM2) bX11_needRange xq_150 rfl (by decide) rfl (by decide) dX11_announce_8 (Eq.refl 11) rfl (by decide) (by decide) ?_
  intro z3 M4 hz3 hM4
  refine xg_iload_n dX11_announce_11 (Eq.refl 12) rfl ?_
  refine xg_iconst dX11_announce_12 (Eq.refl 13) ?_
  refine xg_iload_n dX11_announce_13 (Eq.refl 14) rfl ?_
  refine xg_iconst dX11_announce_14 (Eq.refl 15) ?_
  refine xg_icmp_ne (tgt := 22) dX11_announce_15 (Eq.refl 18) (by decide) h1 (by decide) ?_ ?_
  · refine xg_iconst dX11_announce_18 (Eq.refl 19) ?_
    refine xg_goto (tgt := 25) dX11_announce_19 (by decide) ?_
    exact xg_jump (gX11_announce_25 hl x0 h0 x1 h1 x2 h2 x3 h3 x4 h4 x5 h5 x6 h6 x7 h7 3 (by decide) 1 (by decide) x3 h3 M4 hM4) (xsb_s (xsb_s (xsb_s (xsb_s (xsb_s (xsb_s (xsb_s (xsb_s (xsb_n (xsb_n xsb_0)))))))))) (by decide) (by decide)
  · refine xg_sipush dX11_announce_22 (Eq.refl 25) (by decide +kernel) ?_
    exact xg_jump (gX11_announce_25 hl x0 h0 x1 h1 x2 h2 x3 h3 x4 h4 x5 h5 x6 h6 x7 h7 1000 (by decide) 1 (by decide) x3 h3 M4 hM4) (xsb_s (xsb_s (xsb_s (xsb_s (xsb_s (xsb_s (xsb_s (xsb_s (xsb_n (xsb_n xsb_0)))))))))) (by decide) (by decide)
