abbrev uX0_heldOf : xU := (RX0, cX0_heldOf, 2, (some .long), [], "heldOf")
theorem bX0_heldOf : xYV yX0_heldOf cX0_heldOf 2 (some .long) 1 := ⟨xq_226, xq_227, xq_55, xq_228, ⟨by decide +kernel, by decide +kernel, by decide +kernel⟩, by decide⟩
theorem mX0_heldOf {l : Launch} {G : xG} (hl : l.stackTraces = false) (x0 : Nat) (h0 : xOb 0 x0) (x1 : Int) (h1 : R32 x1) (M : xM) (hM : xcan M) : Cm l G yX0_heldOf cX0_heldOf 2 (some .long) 1 2 0 0 [.ref x0, iv x1] M (fX0_heldOf x0 x1 M) := by
  refine xcm_of (u := uX0_heldOf) (ls := [some (.ref x0), some (iv x1)]) 0 hl rfl (by decide +kernel) (Nat.le_of_ble_eq_true rfl) rfl ?_
  unfold fX0_heldOf
  refine xg_iload_n dX0_heldOf_0 (Eq.refl 1) rfl ?_
  refine xg_if_lt (tgt := 22) dX0_heldOf_1 (Eq.refl 4) (by decide) h1 ?_ ?_
  · refine xg_lconst (z := 0) dX0_heldOf_22 (Eq.refl 23) rfl ?_
    exact xg_lret rfl dX0_heldOf_23 rfl hM (by decide)
  · refine xg_iload_n dX0_heldOf_4 (Eq.refl 5) rfl ?_
    refine xg_aload_n dX0_heldOf_5 (Eq.refl 6) rfl ?_
    refine xg_getR (k := 9) xcl0 h0 rfl xq_73 rfl (xt_0_9 h0).1 dX0_heldOf_6 (Eq.refl 9) ?_
    refine xg_alen (z := 4) (xt_0_9 h0).2 (by decide) dX0_heldOf_9 (Eq.refl 10) rfl ?_
    refine xg_icmp_ge (tgt := 22) dX0_heldOf_10 (Eq.refl 13) (by decide) h1 (by decide) ?_ ?_
    · refine xg_lconst (z := 0) dX0_heldOf_22 (Eq.refl 23) rfl ?_
      exact xg_lret rfl dX0_heldOf_23 rfl hM (by decide)
    · refine xg_aload_n dX0_heldOf_13 (Eq.refl 14) rfl ?_
      refine xg_getR (k := 9) xcl0 h0 rfl xq_73 rfl (xt_0_9 h0).1 dX0_heldOf_14 (Eq.refl 17) ?_
      refine xg_iload_n dX0_heldOf_17 (Eq.refl 18) rfl ?_
      refine xg_lald (xt_0_9 h0).2 dX0_heldOf_18 (Eq.refl 19) ?_
      refine xg_goto (tgt := 23) dX0_heldOf_19 (by decide) ?_
      exact xg_lret rfl dX0_heldOf_23 rfl hM (hM.aj (xt_0_9 h0).2)
abbrev uX0_blockedOf : xU := (RX0, cX0_blockedOf, 2, (some .long), [], "blockedOf")
theorem bX0_blockedOf : xYV yX0_blockedOf cX0_blockedOf 2 (some .long) 1 := ⟨xq_518, xq_519, xq_55, xq_520, ⟨by decide +kernel, by decide +kernel, by decide +kernel⟩, by decide⟩
theorem mX0_blockedOf {l : Launch} {G : xG} (hl : l.stackTraces = false) (x0 : Nat) (h0 : xOb 0 x0) (x1 : Int) (h1 : R32 x1) (M : xM) (hM : xcan M) : Cm l G yX0_blockedOf cX0_blockedOf 2 (some .long) 1 2 0 0 [.ref x0, iv x1] M (fX0_blockedOf x0 x1 M) := by
  refine xcm_of (u := uX0_blockedOf) (ls := [some (.ref x0), some (iv x1)]) 0 hl rfl (by decide +kernel) (Nat.le_of_ble_eq_true rfl) rfl ?_
  unfold fX0_blockedOf
  refine xg_iload_n dX0_blockedOf_0 (Eq.refl 1) rfl ?_
  refine xg_if_lt (tgt := 22) dX0_blockedOf_1 (Eq.refl 4) (by decide) h1 ?_ ?_
  · refine xg_lconst (z := 0) dX0_blockedOf_22 (Eq.refl 23) rfl ?_
    exact xg_lret rfl dX0_blockedOf_23 rfl hM (by decide)
  · refine xg_iload_n dX0_blockedOf_4 (Eq.refl 5) rfl ?_
    refine xg_aload_n dX0_blockedOf_5 (Eq.refl 6) rfl ?_
    refine xg_getR (k := 10) xcl0 h0 rfl xq_74 rfl (xt_0_10 h0).1 dX0_blockedOf_6 (Eq.refl 9) ?_
    refine xg_alen (z := 4) (xt_0_10 h0).2 (by decide) dX0_blockedOf_9 (Eq.refl 10) rfl ?_
    refine xg_icmp_ge (tgt := 22) dX0_blockedOf_10 (Eq.refl 13) (by decide) h1 (by decide) ?_ ?_
    · refine xg_lconst (z := 0) dX0_blockedOf_22 (Eq.refl 23) rfl ?_
      exact xg_lret rfl dX0_blockedOf_23 rfl hM (by decide)
    · refine xg_aload_n dX0_blockedOf_13 (Eq.refl 14) rfl ?_
      refine xg_getR (k := 10) xcl0 h0 rfl xq_74 rfl (xt_0_10 h0).1 dX0_blockedOf_14 (Eq.refl 17) ?_
      refine xg_iload_n dX0_blockedOf_17 (Eq.refl 18) rfl ?_
      refine xg_lald (xt_0_10 h0).2 dX0_blockedOf_18 (Eq.refl 19) ?_
      refine xg_goto (tgt := 23) dX0_blockedOf_19 (by decide) ?_
      exact xg_lret rfl dX0_blockedOf_23 rfl hM (hM.aj (xt_0_10 h0).2)
abbrev uX0_freeOf : xU := (RX0, cX0_freeOf, 3, (some .long), [], "freeOf")
theorem bX0_freeOf : xYV yX0_freeOf cX0_freeOf 3 (some .long) 1 := ⟨xq_234, xq_235, xq_55, xq_236, ⟨by decide +kernel, by decide +kernel, by decide +kernel⟩, by decide⟩
theorem gX0_freeOf_27 {l : Launch} {G : xG} (hl : l.stackTraces = false) (x0 : Nat) (h0 : xOb 0 x0) (x1 : Int) (h1 : R32 x1) (s0 : Int) (hs0 : B01 s0) (M : xM) (hM : xcan M) : Gv l G uX0_freeOf 1 2 0 0 27 [some (.ref x0), some (iv x1), none] [iv s0] M (fX0_freeOf_27 x0 x1 s0 M) := by
  unfold fX0_freeOf_27
  refine xg_istore_n (ls2 := [some (.ref x0), some (iv x1), some (iv s0)]) dX0_freeOf_27 (Eq.refl 28) (by decide) rfl ?_
  refine xg_iload_n dX0_freeOf_28 (Eq.refl 29) rfl ?_
  refine xg_if_eq (tgt := 48) dX0_freeOf_29 (Eq.refl 32) (by decide) (B01.r hs0) ?_ ?_
  · refine xg_lconst (z := 0) dX0_freeOf_48 (Eq.refl 49) rfl ?_
    exact xg_lret rfl dX0_freeOf_49 rfl hM (by decide)
  · refine xg_aload_n dX0_freeOf_32 (Eq.refl 33) rfl ?_
    refine xg_getR (k := 9) xcl0 h0 rfl xq_73 rfl (xt_0_9 h0).1 dX0_freeOf_33 (Eq.refl 36) ?_
    refine xg_iload_n dX0_freeOf_36 (Eq.refl 37) rfl ?_
    refine xg_lald (xt_0_9 h0).2 dX0_freeOf_37 (Eq.refl 38) ?_
    refine xg_aload_n dX0_freeOf_38 (Eq.refl 39) rfl ?_
    refine xg_getR (k := 10) xcl0 h0 rfl xq_74 rfl (xt_0_10 h0).1 dX0_freeOf_39 (Eq.refl 42) ?_
    refine xg_iload_n dX0_freeOf_42 (Eq.refl 43) rfl ?_
    refine xg_lald (xt_0_10 h0).2 dX0_freeOf_43 (Eq.refl 44) ?_
    refine xg_lsub dX0_freeOf_44 (Eq.refl 45) ?_
    refine xg_goto (tgt := 49) dX0_freeOf_45 (by decide) ?_
    exact xg_lret rfl dX0_freeOf_49 rfl hM (w64_r _)
theorem gX0_freeOf_26 {l : Launch} {G : xG} (hl : l.stackTraces = false) (x0 : Nat) (h0 : xOb 0 x0) (x1 : Int) (h1 : R32 x1) (M : xM) (hM : xcan M) : Gv l G uX0_freeOf 1 2 0 0 26 [some (.ref x0), some (iv x1), none] [] M (fX0_freeOf_26 x0 x1 M) := by
  unfold fX0_freeOf_26
  refine xg_iconst dX0_freeOf_26 (Eq.refl 27) ?_
  exact xg_jump (gX0_freeOf_27 hl x0 h0 x1 h1 0 (by decide) M hM) (xsb_s (xsb_s (xsb_n xsb_0))) (by decide) (by decide)
theorem mX0_freeOf {l : Launch} {G : xG} (hl : l.stackTraces = false) (x0 : Nat) (h0 : xOb 0 x0) (x1 : Int) (h1 : R32 x1) (M : xM) (hM : xcan M) : Cm l G yX0_freeOf cX0_freeOf 3 (some .long) 1 2 0 0 [.ref x0, iv x1] M (fX0_freeOf x0 x1 M) := by
  refine xcm_of (u := uX0_freeOf) (ls := [some (.ref x0), some (iv x1), none]) 1 hl rfl (by decide +kernel) (Nat.le_of_ble_eq_true rfl) rfl ?_
  unfold fX0_freeOf
  refine xg_iload_n dX0_freeOf_0 (Eq.refl 1) rfl ?_
  refine xg_if_lt (tgt := 26) dX0_freeOf_1 (Eq.refl 4) (by decide) h1 ?_ ?_
  · exact xg_jump (gX0_freeOf_26 hl x0 h0 x1 h1 M hM) (xsb_s (xsb_s (xsb_n xsb_0))) (by decide) (by decide)
  · refine xg_iload_n dX0_freeOf_4 (Eq.refl 5) rfl ?_
    refine xg_aload_n dX0_freeOf_5 (Eq.refl 6) rfl ?_
    refine xg_getR (k := 9) xcl0 h0 rfl xq_73 rfl (xt_0_9 h0).1 dX0_freeOf_6 (Eq.refl 9) ?_
    refine xg_alen (z := 4) (xt_0_9 h0).2 (by decide) dX0_freeOf_9 (Eq.refl 10) rfl ?_
    refine xg_icmp_ge (tgt := 26) dX0_freeOf_10 (Eq.refl 13) (by decide) h1 (by decide) ?_ ?_
    · exact xg_jump (gX0_freeOf_26 hl x0 h0 x1 h1 M hM) (xsb_s (xsb_s (xsb_n xsb_0))) (by decide) (by decide)
    · refine xg_iload_n dX0_freeOf_13 (Eq.refl 14) rfl ?_
      refine xg_aload_n dX0_freeOf_14 (Eq.refl 15) rfl ?_
      refine xg_getR (k := 10) xcl0 h0 rfl xq_74 rfl (xt_0_10 h0).1 dX0_freeOf_15 (Eq.refl 18) ?_
      refine xg_alen (z := 4) (xt_0_10 h0).2 (by decide) dX0_freeOf_18 (Eq.refl 19) rfl ?_
      refine xg_icmp_ge (tgt := 26) dX0_freeOf_19 (Eq.refl 22) (by decide) h1 (by decide) ?_ ?_
      · exact xg_jump (gX0_freeOf_26 hl x0 h0 x1 h1 M hM) (xsb_s (xsb_s (xsb_n xsb_0))) (by decide) (by decide)
      · refine xg_iconst dX0_freeOf_22 (Eq.refl 23) ?_
        refine xg_goto (tgt := 27) dX0_freeOf_23 (by decide) ?_
        exact xg_jump (gX0_freeOf_27 hl x0 h0 x1 h1 1 (by decide) M hM) (xsb_s (xsb_s (xsb_n xsb_0))) (by decide) (by decide)
abbrev uX0_freeCash : xU := (RX0, cX0_freeCash, 1, (some .long), [], "freeCash")
theorem bX0_freeCash : xYV yX0_freeCash cX0_freeCash 1 (some .long) 0 := ⟨xq_392, xq_393, xq_55, xq_394, ⟨by decide +kernel, by decide +kernel, by decide +kernel⟩, by decide⟩
theorem mX0_freeCash {l : Launch} {G : xG} (hl : l.stackTraces = false) (x0 : Nat) (h0 : xOb 0 x0) (M : xM) (hM : xcan M) : Cm l G yX0_freeCash cX0_freeCash 1 (some .long) 1 2 0 0 [.ref x0] M (fX0_freeCash x0 M) := by
  refine xcm_of (u := uX0_freeCash) (ls := [some (.ref x0)]) 0 hl rfl (by decide +kernel) (Nat.le_of_ble_eq_true rfl) rfl ?_
  unfold fX0_freeCash
  refine xg_aload_n dX0_freeCash_0 (Eq.refl 1) rfl ?_
  refine xg_getJ (k := 5) xcl0 h0 rfl xq_395 rfl dX0_freeCash_1 (Eq.refl 4) ?_
  refine xg_aload_n dX0_freeCash_4 (Eq.refl 5) rfl ?_
  refine xg_getJ (k := 6) xcl0 h0 rfl xq_396 rfl dX0_freeCash_5 (Eq.refl 8) ?_
  refine xg_lsub dX0_freeCash_8 (Eq.refl 9) ?_
  exact xg_lret rfl dX0_freeCash_9 rfl hM (w64_r _)
abbrev uX0_setBlocked : xU := (RX0, cX0_setBlocked, 4, none, [], "setBlocked")
theorem bX0_setBlocked : xYV yX0_setBlocked cX0_setBlocked 4 none 2 := ⟨xq_522, xq_523, xq_55, xq_524, ⟨by decide +kernel, by decide +kernel, by decide +kernel⟩, by decide⟩
theorem mX0_setBlocked {l : Launch} {G : xG} (hl : l.stackTraces = false) (x0 : Nat) (h0 : xOb 0 x0) (x1 : Int) (h1 : R32 x1) (x2 : Int) (h2 : R64 x2) (M : xM) (hM : xcan M) : Cm l G yX0_setBlocked cX0_setBlocked 4 none 1 3 0 0 [.ref x0, iv x1, jv x2] M (fX0_setBlocked x0 x1 x2 M) := by
  refine xcm_of (u := uX0_setBlocked) (ls := [some (.ref x0), some (iv x1), some (jv x2), none]) 0 hl rfl (by decide +kernel) (Nat.le_of_ble_eq_true rfl) rfl ?_
  unfold fX0_setBlocked
  refine xg_iload_n dX0_setBlocked_0 (Eq.refl 1) rfl ?_
  refine xg_if_lt (tgt := 20) dX0_setBlocked_1 (Eq.refl 4) (by decide) h1 ?_ ?_
  · exact xg_vret rfl dX0_setBlocked_20 rfl hM
  · refine xg_iload_n dX0_setBlocked_4 (Eq.refl 5) rfl ?_
    refine xg_aload_n dX0_setBlocked_5 (Eq.refl 6) rfl ?_
    refine xg_getR (k := 10) xcl0 h0 rfl xq_74 rfl (xt_0_10 h0).1 dX0_setBlocked_6 (Eq.refl 9) ?_
    refine xg_alen (z := 4) (xt_0_10 h0).2 (by decide) dX0_setBlocked_9 (Eq.refl 10) rfl ?_
    refine xg_icmp_ge (tgt := 20) dX0_setBlocked_10 (Eq.refl 13) (by decide) h1 (by decide) ?_ ?_
    · exact xg_vret rfl dX0_setBlocked_20 rfl hM
    · refine xg_aload_n dX0_setBlocked_13 (Eq.refl 14) rfl ?_
      refine xg_getR (k := 10) xcl0 h0 rfl xq_74 rfl (xt_0_10 h0).1 dX0_setBlocked_14 (Eq.refl 17) ?_
      refine xg_iload_n dX0_setBlocked_17 (Eq.refl 18) rfl ?_
      refine xg_lload_n dX0_setBlocked_18 (Eq.refl 19) rfl ?_
      refine xg_last (xt_0_10 h0).2 dX0_setBlocked_19 (Eq.refl 20) hM h2 ?_
      intro M1 hM1
      exact xg_vret rfl dX0_setBlocked_20 rfl hM1
abbrev uX0_shift : xU := (RX0, cX0_shift, 4, none, [], "shift")
theorem bX0_shift : xYV yX0_shift cX0_shift 4 none 2 := ⟨xq_195, xq_196, xq_55, xq_197, ⟨by decide +kernel, by decide +kernel, by decide +kernel⟩, by decide⟩
theorem mX0_shift {l : Launch} {G : xG} (hl : l.stackTraces = false) (x0 : Nat) (h0 : xOb 0 x0) (x1 : Int) (h1 : R32 x1) (x2 : Int) (h2 : R64 x2) (M : xM) (hM : xcan M) : Cm l G yX0_shift cX0_shift 4 none 1 3 0 0 [.ref x0, iv x1, jv x2] M (fX0_shift x0 x1 x2 M) := by
  refine xcm_of (u := uX0_shift) (ls := [some (.ref x0), some (iv x1), some (jv x2), none]) 0 hl rfl (by decide +kernel) (Nat.le_of_ble_eq_true rfl) rfl ?_
  unfold fX0_shift
  refine xg_iload_n dX0_shift_0 (Eq.refl 1) rfl ?_
  refine xg_if_lt (tgt := 23) dX0_shift_1 (Eq.refl 4) (by decide) h1 ?_ ?_
  · exact xg_vret rfl dX0_shift_23 rfl hM
  · refine xg_iload_n dX0_shift_4 (Eq.refl 5) rfl ?_
    refine xg_aload_n dX0_shift_5 (Eq.refl 6) rfl ?_
    refine xg_getR (k := 9) xcl0 h0 rfl xq_73 rfl (xt_0_9 h0).1 dX0_shift_6 (Eq.refl 9) ?_
    refine xg_alen (z := 4) (xt_0_9 h0).2 (by decide) dX0_shift_9 (Eq.refl 10) rfl ?_
    refine xg_icmp_ge (tgt := 23) dX0_shift_10 (Eq.refl 13) (by decide) h1 (by decide) ?_ ?_
    · exact xg_vret rfl dX0_shift_23 rfl hM
    · refine xg_aload_n dX0_shift_13 (Eq.refl 14) rfl ?_
      refine xg_getR (k := 9) xcl0 h0 rfl xq_73 rfl (xt_0_9 h0).1 dX0_shift_14 (Eq.refl 17) ?_
      refine xg_iload_n dX0_shift_17 (Eq.refl 18) rfl ?_
      refine xg_dup2 dX0_shift_18 (Eq.refl 19) rfl rfl ?_
      refine xg_lald (xt_0_9 h0).2 dX0_shift_19 (Eq.refl 20) ?_
      refine xg_lload_n dX0_shift_20 (Eq.refl 21) rfl ?_
      refine xg_ladd dX0_shift_21 (Eq.refl 22) ?_
      refine xg_last (xt_0_9 h0).2 dX0_shift_22 (Eq.refl 23) hM (w64_r _) ?_
      intro M1 hM1
      exact xg_vret rfl dX0_shift_23 rfl hM1
abbrev uX0_move : xU := (RX0, cX0_move, 6, none, [], "move")
theorem bX0_move : xYV yX0_move cX0_move 6 none 3 := ⟨xq_191, xq_192, xq_55, xq_193, ⟨by decide +kernel, by decide +kernel, by decide +kernel⟩, by decide⟩
theorem mX0_move {l : Launch} {G : xG} (hl : l.stackTraces = false) (x0 : Nat) (h0 : xOb 0 x0) (x1 : Int) (h1 : R32 x1) (x2 : Int) (h2 : R64 x2) (x4 : Int) (h4 : R32 x4) (M : xM) (hM : xcan M) : Cm l G yX0_move cX0_move 6 none 2 3 0 0 [.ref x0, iv x1, jv x2, iv x4] M (fX0_move x0 x1 x2 x4 M) := by
  refine xcm_of (u := uX0_move) (ls := [some (.ref x0), some (iv x1), some (jv x2), none, some (iv x4), none]) 1 hl rfl (by decide +kernel) (Nat.le_of_ble_eq_true rfl) rfl ?_
  unfold fX0_move
  refine xg_aload_n dX0_move_0 (Eq.refl 1) rfl ?_
  refine xg_iload_n dX0_move_1 (Eq.refl 2) rfl ?_
  refine xg_lload_n dX0_move_2 (Eq.refl 3) rfl ?_
  refine xg_callV_N (kc := 0) (ks := 0) (st := []) (mX0_shift hl x0 h0 x1 h1 x2 h2 M hM) bX0_shift xcl0 h0 rfl xq_194 rfl (by decide) rfl (by decide) dX0_move_3 (Eq.refl 6) rfl (by decide) (by decide) ?_
  intro z1 M2 hz1 hM2
  refine xg_iload dX0_move_6 (Eq.refl 8) rfl ?_
  refine xg_iconst dX0_move_8 (Eq.refl 9) ?_
  refine xg_imul dX0_move_9 (Eq.refl 10) ?_
  refine xg_iload_n dX0_move_10 (Eq.refl 11) rfl ?_
  refine xg_iadd dX0_move_11 (Eq.refl 12) ?_
  refine xg_istoreL (P := R32) (ls2 := fun y3 => [some (.ref x0), some (iv x1), some (jv x2), none, some (iv x4), some (iv y3)]) dX0_move_12 (Eq.refl 14) (by decide) (w32_r _) (fun _ => rfl) ?_
  intro y3 hy3
  refine xg_iload dX0_move_14 (Eq.refl 16) rfl ?_
  refine xg_if_lt (tgt := 40) dX0_move_16 (Eq.refl 19) (by decide) hy3 ?_ ?_
  · exact xg_vret rfl dX0_move_40 rfl hM2
  · refine xg_iload dX0_move_19 (Eq.refl 21) rfl ?_
    refine xg_aload_n dX0_move_21 (Eq.refl 22) rfl ?_
    refine xg_getR (k := 11) xcl0 h0 rfl xq_75 rfl (xt_0_11 h0).1 dX0_move_22 (Eq.refl 25) ?_
    refine xg_alen (z := 44) (xt_0_11 h0).2 (by decide) dX0_move_25 (Eq.refl 26) rfl ?_
    refine xg_icmp_ge (tgt := 40) dX0_move_26 (Eq.refl 29) (by decide) hy3 (by decide) ?_ ?_
    · exact xg_vret rfl dX0_move_40 rfl hM2
    · refine xg_aload_n dX0_move_29 (Eq.refl 30) rfl ?_
      refine xg_getR (k := 11) xcl0 h0 rfl xq_75 rfl (xt_0_11 h0).1 dX0_move_30 (Eq.refl 33) ?_
      refine xg_iload dX0_move_33 (Eq.refl 35) rfl ?_
      refine xg_dup2 dX0_move_35 (Eq.refl 36) rfl rfl ?_
      refine xg_lald (xt_0_11 h0).2 dX0_move_36 (Eq.refl 37) ?_
      refine xg_lload_n dX0_move_37 (Eq.refl 38) rfl ?_
      refine xg_ladd dX0_move_38 (Eq.refl 39) ?_
      refine xg_last (xt_0_11 h0).2 dX0_move_39 (Eq.refl 40) hM2 (w64_r _) ?_
      intro M4 hM4
      exact xg_vret rfl dX0_move_40 rfl hM4
abbrev uX11_copyAll : xU := (RX11, cX11_copyAll, 2, none, [], "copyAll")
theorem bX11_copyAll : xYS yX11_copyAll cX11_copyAll 2 none 2 := ⟨xq_925, xq_2, xq_926, ⟨by decide +kernel, by decide +kernel, by decide +kernel⟩, by decide⟩
theorem mX11_copyAll {l : Launch} {G : xG} (hl : l.stackTraces = false) (x0 : Nat) (h0 : xAn 1 (xln x0) x0) (x1 : Nat) (h1 : xAn 1 (xln x1) x1) (M : xM) (hM : xcan M) : Cm l G yX11_copyAll cX11_copyAll 2 none 1 3 0 0 [.ref x0, .ref x1] M (fX11_copyAll x0 x1 M) := by
  refine xcm_of (u := uX11_copyAll) (ls := [some (.ref x0), some (.ref x1)]) 0 hl rfl (by decide +kernel) (Nat.le_of_ble_eq_true rfl) rfl ?_
  unfold fX11_copyAll
  refine xg_aload_n dX11_copyAll_0 (Eq.refl 1) rfl ?_
  refine xg_iconst dX11_copyAll_1 (Eq.refl 2) ?_
  refine xg_aload_n dX11_copyAll_2 (Eq.refl 3) rfl ?_
  refine xg_iconst dX11_copyAll_3 (Eq.refl 4) ?_
  refine xg_aload_n dX11_copyAll_4 (Eq.refl 5) rfl ?_
  refine xg_alen (z := ((xln x0 : Nat) : Int)) h0 (by decide) dX11_copyAll_5 (Eq.refl 6) rfl ?_
  refine xg_aload_n dX11_copyAll_6 (Eq.refl 7) rfl ?_
  refine xg_alen (z := ((xln x1 : Nat) : Int)) h1 (by decide) dX11_copyAll_7 (Eq.refl 8) rfl ?_
  refine xg_mmini xq_927 xq_305 xq_306 xq_307 dX11_copyAll_8 (Eq.refl 11) (xln_r x0) (xln_r x1) (Nat.le_of_ble_eq_true rfl) ?_
  refine xg_copyl xq_928 xq_929 xq_930 xq_931 h0 h1 dX11_copyAll_11 (Eq.refl 14) (by decide) hM ?_
  intro M1 hM1
  exact xg_vret rfl dX11_copyAll_14 rfl hM1
abbrev uX0_copyFrom : xU := (RX0, cX0_copyFrom, 2, none, [], "copyFrom")
theorem bX0_copyFrom : xYV yX0_copyFrom cX0_copyFrom 2 none 1 := ⟨xq_916, xq_917, xq_55, xq_918, ⟨by decide +kernel, by decide +kernel, by decide +kernel⟩, by decide⟩
theorem mX0_copyFrom {l : Launch} {G : xG} (hl : l.stackTraces = false) (x0 : Nat) (h0 : xOb 0 x0) (x1 : Nat) (h1 : xOb 0 x1) (M : xM) (hM : xcan M) : Cm l G yX0_copyFrom cX0_copyFrom 2 none 2 3 0 0 [.ref x0, .ref x1] M (fX0_copyFrom x0 x1 M) := by
  refine xcm_of (u := uX0_copyFrom) (ls := [some (.ref x0), some (.ref x1)]) 0 hl rfl (by decide +kernel) (Nat.le_of_ble_eq_true rfl) rfl ?_
  unfold fX0_copyFrom
  refine xg_aload_n dX0_copyFrom_0 (Eq.refl 1) rfl ?_
  refine xg_aload_n dX0_copyFrom_1 (Eq.refl 2) rfl ?_
  refine xg_getI (k := 0) xcl0 h1 rfl xq_919 rfl dX0_copyFrom_2 (Eq.refl 5) ?_
  refine xg_putI (k := 0) xcl0 h0 rfl xq_919 rfl (by decide +kernel) dX0_copyFrom_5 (Eq.refl 8) rfl hM (hM.I h1 rfl) ?_
  intro M1 hM1
  refine xg_aload_n dX0_copyFrom_8 (Eq.refl 9) rfl ?_
  refine xg_aload_n dX0_copyFrom_9 (Eq.refl 10) rfl ?_
  refine xg_getI (k := 1) xcl0 h1 rfl xq_72 rfl dX0_copyFrom_10 (Eq.refl 13) ?_
  refine xg_putI (k := 1) xcl0 h0 rfl xq_72 rfl (by decide +kernel) dX0_copyFrom_13 (Eq.refl 16) rfl hM1 (hM1.I h1 rfl) ?_
  intro M2 hM2
  refine xg_aload_n dX0_copyFrom_16 (Eq.refl 17) rfl ?_
  refine xg_aload_n dX0_copyFrom_17 (Eq.refl 18) rfl ?_
  refine xg_getZ (k := 2) xcl0 h1 rfl xq_920 rfl dX0_copyFrom_18 (Eq.refl 21) hM2 ?_
  refine xg_putZ (k := 2) xcl0 h0 rfl xq_920 rfl (by decide +kernel) dX0_copyFrom_21 (Eq.refl 24) rfl hM2 (hM2.Z h1 rfl) ?_
  intro M3 hM3
  refine xg_aload_n dX0_copyFrom_24 (Eq.refl 25) rfl ?_
  refine xg_aload_n dX0_copyFrom_25 (Eq.refl 26) rfl ?_
  refine xg_getZ (k := 3) xcl0 h1 rfl xq_921 rfl dX0_copyFrom_26 (Eq.refl 29) hM3 ?_
  refine xg_putZ (k := 3) xcl0 h0 rfl xq_921 rfl (by decide +kernel) dX0_copyFrom_29 (Eq.refl 32) rfl hM3 (hM3.Z h1 rfl) ?_
  intro M4 hM4
  refine xg_aload_n dX0_copyFrom_32 (Eq.refl 33) rfl ?_
  refine xg_aload_n dX0_copyFrom_33 (Eq.refl 34) rfl ?_
  refine xg_getZ (k := 4) xcl0 h1 rfl xq_922 rfl dX0_copyFrom_34 (Eq.refl 37) hM4 ?_
  refine xg_putZ (k := 4) xcl0 h0 rfl xq_922 rfl (by decide +kernel) dX0_copyFrom_37 (Eq.refl 40) rfl hM4 (hM4.Z h1 rfl) ?_
  intro M5 hM5
  refine xg_aload_n dX0_copyFrom_40 (Eq.refl 41) rfl ?_
  refine xg_aload_n dX0_copyFrom_41 (Eq.refl 42) rfl ?_
  refine xg_getJ (k := 5) xcl0 h1 rfl xq_395 rfl dX0_copyFrom_42 (Eq.refl 45) ?_
  refine xg_putJ (k := 5) xcl0 h0 rfl xq_395 rfl (by decide +kernel) dX0_copyFrom_45 (Eq.refl 48) rfl hM5 (hM5.J h1 rfl) ?_
  intro M6 hM6
  refine xg_aload_n dX0_copyFrom_48 (Eq.refl 49) rfl ?_
  refine xg_aload_n dX0_copyFrom_49 (Eq.refl 50) rfl ?_
  refine xg_getJ (k := 6) xcl0 h1 rfl xq_396 rfl dX0_copyFrom_50 (Eq.refl 53) ?_
  refine xg_putJ (k := 6) xcl0 h0 rfl xq_396 rfl (by decide +kernel) dX0_copyFrom_53 (Eq.refl 56) rfl hM6 (hM6.J h1 rfl) ?_
  intro M7 hM7
  refine xg_aload_n dX0_copyFrom_56 (Eq.refl 57) rfl ?_
  refine xg_aload_n dX0_copyFrom_57 (Eq.refl 58) rfl ?_
  refine xg_getJ (k := 7) xcl0 h1 rfl xq_923 rfl dX0_copyFrom_58 (Eq.refl 61) ?_
  refine xg_putJ (k := 7) xcl0 h0 rfl xq_923 rfl (by decide +kernel) dX0_copyFrom_61 (Eq.refl 64) rfl hM7 (hM7.J h1 rfl) ?_
  intro M8 hM8
  refine xg_aload_n dX0_copyFrom_64 (Eq.refl 65) rfl ?_
  refine xg_aload_n dX0_copyFrom_65 (Eq.refl 66) rfl ?_
  refine xg_getJ (k := 8) xcl0 h1 rfl xq_924 rfl dX0_copyFrom_66 (Eq.refl 69) ?_
  refine xg_putJ (k := 8) xcl0 h0 rfl xq_924 rfl (by decide +kernel) dX0_copyFrom_69 (Eq.refl 72) rfl hM8 (hM8.J h1 rfl) ?_
  intro M9 hM9
  refine xg_aload_n dX0_copyFrom_72 (Eq.refl 73) rfl ?_
  refine xg_getR (k := 9) xcl0 h1 rfl xq_73 rfl (xt_0_9 h1).1 dX0_copyFrom_73 (Eq.refl 76) ?_
  refine xg_aload_n dX0_copyFrom_76 (Eq.refl 77) rfl ?_
  refine xg_getR (k := 9) xcl0 h0 rfl xq_73 rfl (xt_0_9 h0).1 dX0_copyFrom_77 (Eq.refl 80) ?_
  refine xg_callSN_N (kc := 0) (ks := 0) (st := []) (mX11_copyAll hl (xr x1 9) (xAn.l (xt_0_9 h1).2) (xr x0 9) (xAn.l (xt_0_9 h0).2) M9 hM9) bX11_copyAll (fun U h => h.2.2.2.2.2.2.2.1) rfl (by decide) rfl (by decide) dX0_copyFrom_80 (Eq.refl 83) rfl (by decide) (by decide) ?_
  intro z10 M11 hz10 hM11
  refine xg_aload_n dX0_copyFrom_83 (Eq.refl 84) rfl ?_
  refine xg_getR (k := 10) xcl0 h1 rfl xq_74 rfl (xt_0_10 h1).1 dX0_copyFrom_84 (Eq.refl 87) ?_
  refine xg_aload_n dX0_copyFrom_87 (Eq.refl 88) rfl ?_
  refine xg_getR (k := 10) xcl0 h0 rfl xq_74 rfl (xt_0_10 h0).1 dX0_copyFrom_88 (Eq.refl 91) ?_
  refine xg_callSN_N (kc := 0) (ks := 0) (st := []) (mX11_copyAll hl (xr x1 10) (xAn.l (xt_0_10 h1).2) (xr x0 10) (xAn.l (xt_0_10 h0).2) M11 hM11) bX11_copyAll (fun U h => h.2.2.2.2.2.2.2.1) rfl (by decide) rfl (by decide) dX0_copyFrom_91 (Eq.refl 94) rfl (by decide) (by decide) ?_
  intro z12 M13 hz12 hM13
  refine xg_aload_n dX0_copyFrom_94 (Eq.refl 95) rfl ?_
  refine xg_getR (k := 11) xcl0 h1 rfl xq_75 rfl (xt_0_11 h1).1 dX0_copyFrom_95 (Eq.refl 98) ?_
  refine xg_aload_n dX0_copyFrom_98 (Eq.refl 99) rfl ?_
  refine xg_getR (k := 11) xcl0 h0 rfl xq_75 rfl (xt_0_11 h0).1 dX0_copyFrom_99 (Eq.refl 102) ?_
  refine xg_callSN_N (kc := 0) (ks := 0) (st := []) (mX11_copyAll hl (xr x1 11) (xAn.l (xt_0_11 h1).2) (xr x0 11) (xAn.l (xt_0_11 h0).2) M13 hM13) bX11_copyAll (fun U h => h.2.2.2.2.2.2.2.1) rfl (by decide) rfl (by decide) dX0_copyFrom_102 (Eq.refl 105) rfl (by decide) (by decide) ?_
  intro z14 M15 hz14 hM15
  exact xg_vret rfl dX0_copyFrom_105 rfl hM15
abbrev uX1_account : xU := (RX1, cX1_account, 2, (some (.object "SettlementRing$Account")), [], "account")
theorem bX1_account : xYV yX1_account cX1_account 2 (some (.object "SettlementRing$Account")) 1 := ⟨xq_159, xq_160, xq_17, xq_161, ⟨by decide +kernel, by decide +kernel, by decide +kernel⟩, by decide⟩
theorem gX1_account_14 {l : Launch} {G : xG} (hl : l.stackTraces = false) (s0 : Nat) (hs0 : xAn 3 11 s0) (M : xM) (hM : xcan M) : Gv l G uX1_account 1 10 0 0 14 [none, none] [.ref s0] M (fX1_account_14 s0 M) := by
  unfold fX1_account_14
  refine xg_bipush dX1_account_14 (Eq.refl 16) (by decide +kernel) ?_
  refine xg_goto (tgt := 20) dX1_account_16 (by decide) ?_
  refine xg_aald hs0 (by decide) (by decide) rfl (fun _ hi => (xe_3 hs0 hi).1) dX1_account_20 (Eq.refl 21) ?_
  intro q1
  exact xg_aret rfl dX1_account_21 rfl hM (xe_3 hs0 (by have := q1; omega)).2
theorem mX1_account {l : Launch} {G : xG} (hl : l.stackTraces = false) (x0 : Nat) (h0 : xOb 1 x0) (x1 : Int) (h1 : R32 x1) (M : xM) (hM : xcan M) : Cm l G yX1_account cX1_account 2 (some (.object "SettlementRing$Account")) 1 10 0 0 [.ref x0, iv x1] M (fX1_account x0 x1 M) := by
  refine xcm_of (u := uX1_account) (ls := [some (.ref x0), some (iv x1)]) 0 hl rfl (by decide +kernel) (Nat.le_of_ble_eq_true rfl) rfl ?_
  unfold fX1_account
  refine xg_aload_n dX1_account_0 (Eq.refl 1) rfl ?_
  refine xg_getR (k := 1) xcl1 h0 rfl xq_38 rfl (xt_1_1 h0).1 dX1_account_1 (Eq.refl 4) ?_
  refine xg_iload_n dX1_account_4 (Eq.refl 5) rfl ?_
  refine xg_if_lt (tgt := 14) dX1_account_5 (Eq.refl 8) (by decide) h1 ?_ ?_
  · exact xg_jump (gX1_account_14 hl (xr x0 1) (xt_1_1 h0).2 M hM) (xsb_n (xsb_n xsb_0)) (by decide) (by decide)
  · refine xg_iload_n dX1_account_8 (Eq.refl 9) rfl ?_
    refine xg_bipush dX1_account_9 (Eq.refl 11) (by decide +kernel) ?_
    refine xg_icmp_le (tgt := 19) dX1_account_11 (Eq.refl 14) (by decide) h1 (by decide) ?_ ?_
    · refine xg_iload_n dX1_account_19 (Eq.refl 20) rfl ?_
      refine xg_aald (xt_1_1 h0).2 (by decide) (by decide) rfl (fun _ hi => (xe_3 (xt_1_1 h0).2 hi).1) dX1_account_20 (Eq.refl 21) ?_
      intro q1
      exact xg_aret rfl dX1_account_21 rfl hM (xe_3 (xt_1_1 h0).2 (by have := q1; omega)).2
    · exact xg_jump (gX1_account_14 hl (xr x0 1) (xt_1_1 h0).2 M hM) (xsb_n (xsb_n xsb_0)) (by decide) (by decide)
abbrev uX1_security : xU := (RX1, cX1_security, 2, (some (.object "SettlementRing$Security")), [], "security")
theorem bX1_security : xYV yX1_security cX1_security 2 (some (.object "SettlementRing$Security")) 1 := ⟨xq_187, xq_188, xq_17, xq_189, ⟨by decide +kernel, by decide +kernel, by decide +kernel⟩, by decide⟩
theorem gX1_security_13 {l : Launch} {G : xG} (hl : l.stackTraces = false) (s0 : Nat) (hs0 : xAn 4 5 s0) (M : xM) (hM : xcan M) : Gv l G uX1_security 1 19 0 0 13 [none, none] [.ref s0] M (fX1_security_13 s0 M) := by
  unfold fX1_security_13
  refine xg_iconst dX1_security_13 (Eq.refl 14) ?_
  refine xg_goto (tgt := 18) dX1_security_14 (by decide) ?_
  refine xg_aald hs0 (by decide) (by decide) rfl (fun _ hi => (xe_4 hs0 hi).1) dX1_security_18 (Eq.refl 19) ?_
  intro q1
  exact xg_aret rfl dX1_security_19 rfl hM (xe_4 hs0 (by have := q1; omega)).2
theorem mX1_security {l : Launch} {G : xG} (hl : l.stackTraces = false) (x0 : Nat) (h0 : xOb 1 x0) (x1 : Int) (h1 : R32 x1) (M : xM) (hM : xcan M) : Cm l G yX1_security cX1_security 2 (some (.object "SettlementRing$Security")) 1 19 0 0 [.ref x0, iv x1] M (fX1_security x0 x1 M) := by
  refine xcm_of (u := uX1_security) (ls := [some (.ref x0), some (iv x1)]) 0 hl rfl (by decide +kernel) (Nat.le_of_ble_eq_true rfl) rfl ?_
  unfold fX1_security
  refine xg_aload_n dX1_security_0 (Eq.refl 1) rfl ?_
  refine xg_getR (k := 2) xcl1 h0 rfl xq_40 rfl (xt_1_2 h0).1 dX1_security_1 (Eq.refl 4) ?_
  refine xg_iload_n dX1_security_4 (Eq.refl 5) rfl ?_
  refine xg_if_lt (tgt := 13) dX1_security_5 (Eq.refl 8) (by decide) h1 ?_ ?_
  · exact xg_jump (gX1_security_13 hl (xr x0 2) (xt_1_2 h0).2 M hM) (xsb_n (xsb_n xsb_0)) (by decide) (by decide)
  · refine xg_iload_n dX1_security_8 (Eq.refl 9) rfl ?_
    refine xg_iconst dX1_security_9 (Eq.refl 10) ?_
    refine xg_icmp_le (tgt := 17) dX1_security_10 (Eq.refl 13) (by decide) h1 (by decide) ?_ ?_
    · refine xg_iload_n dX1_security_17 (Eq.refl 18) rfl ?_
      refine xg_aald (xt_1_2 h0).2 (by decide) (by decide) rfl (fun _ hi => (xe_4 (xt_1_2 h0).2 hi).1) dX1_security_18 (Eq.refl 19) ?_
      intro q1
      exact xg_aret rfl dX1_security_19 rfl hM (xe_4 (xt_1_2 h0).2 (by have := q1; omega)).2
    · exact xg_jump (gX1_security_13 hl (xr x0 2) (xt_1_2 h0).2 M hM) (xsb_n (xsb_n xsb_0)) (by decide) (by decide)
abbrev uX1_instruction : xU := (RX1, cX1_instruction, 2, (some (.object "SettlementRing$Instruction")), [], "instruction")
theorem bX1_instruction : xYV yX1_instruction cX1_instruction 2 (some (.object "SettlementRing$Instruction")) 1 := ⟨xq_248, xq_249, xq_17, xq_250, ⟨by decide +kernel, by decide +kernel, by decide +kernel⟩, by decide⟩
theorem gX1_instruction_14 {l : Launch} {G : xG} (hl : l.stackTraces = false) (s0 : Nat) (hs0 : xAn 5 41 s0) (M : xM) (hM : xcan M) : Gv l G uX1_instruction 1 15 0 0 14 [none, none] [.ref s0] M (fX1_instruction_14 s0 M) := by
  unfold fX1_instruction_14
  refine xg_bipush dX1_instruction_14 (Eq.refl 16) (by decide +kernel) ?_
  refine xg_goto (tgt := 20) dX1_instruction_16 (by decide) ?_
  refine xg_aald hs0 (by decide) (by decide) rfl (fun _ hi => (xe_5 hs0 hi).1) dX1_instruction_20 (Eq.refl 21) ?_
  intro q1
  exact xg_aret rfl dX1_instruction_21 rfl hM (xe_5 hs0 (by have := q1; omega)).2
theorem mX1_instruction {l : Launch} {G : xG} (hl : l.stackTraces = false) (x0 : Nat) (h0 : xOb 1 x0) (x1 : Int) (h1 : R32 x1) (M : xM) (hM : xcan M) : Cm l G yX1_instruction cX1_instruction 2 (some (.object "SettlementRing$Instruction")) 1 15 0 0 [.ref x0, iv x1] M (fX1_instruction x0 x1 M) := by
  refine xcm_of (u := uX1_instruction) (ls := [some (.ref x0), some (iv x1)]) 0 hl rfl (by decide +kernel) (Nat.le_of_ble_eq_true rfl) rfl ?_
  unfold fX1_instruction
  refine xg_aload_n dX1_instruction_0 (Eq.refl 1) rfl ?_
  refine xg_getR (k := 3) xcl1 h0 rfl xq_42 rfl (xt_1_3 h0).1 dX1_instruction_1 (Eq.refl 4) ?_
  refine xg_iload_n dX1_instruction_4 (Eq.refl 5) rfl ?_
  refine xg_if_lt (tgt := 14) dX1_instruction_5 (Eq.refl 8) (by decide) h1 ?_ ?_
  · exact xg_jump (gX1_instruction_14 hl (xr x0 3) (xt_1_3 h0).2 M hM) (xsb_n (xsb_n xsb_0)) (by decide) (by decide)
  · refine xg_iload_n dX1_instruction_8 (Eq.refl 9) rfl ?_
    refine xg_bipush dX1_instruction_9 (Eq.refl 11) (by decide +kernel) ?_
    refine xg_icmp_le (tgt := 19) dX1_instruction_11 (Eq.refl 14) (by decide) h1 (by decide) ?_ ?_
    · refine xg_iload_n dX1_instruction_19 (Eq.refl 20) rfl ?_
      refine xg_aald (xt_1_3 h0).2 (by decide) (by decide) rfl (fun _ hi => (xe_5 (xt_1_3 h0).2 hi).1) dX1_instruction_20 (Eq.refl 21) ?_
      intro q1
      exact xg_aret rfl dX1_instruction_21 rfl hM (xe_5 (xt_1_3 h0).2 (by have := q1; omega)).2
    · exact xg_jump (gX1_instruction_14 hl (xr x0 3) (xt_1_3 h0).2 M hM) (xsb_n (xsb_n xsb_0)) (by decide) (by decide)
abbrev uX1_trade : xU := (RX1, cX1_trade, 2, (some (.object "SettlementRing$Trade")), [], "trade")
theorem bX1_trade : xYV yX1_trade cX1_trade 2 (some (.object "SettlementRing$Trade")) 1 := ⟨xq_262, xq_263, xq_17, xq_264, ⟨by decide +kernel, by decide +kernel, by decide +kernel⟩, by decide⟩
theorem gX1_trade_14 {l : Launch} {G : xG} (hl : l.stackTraces = false) (s0 : Nat) (hs0 : xAn 6 21 s0) (M : xM) (hM : xcan M) : Gv l G uX1_trade 1 20 0 0 14 [none, none] [.ref s0] M (fX1_trade_14 s0 M) := by
  unfold fX1_trade_14
  refine xg_bipush dX1_trade_14 (Eq.refl 16) (by decide +kernel) ?_
  refine xg_goto (tgt := 20) dX1_trade_16 (by decide) ?_
  refine xg_aald hs0 (by decide) (by decide) rfl (fun _ hi => (xe_6 hs0 hi).1) dX1_trade_20 (Eq.refl 21) ?_
  intro q1
  exact xg_aret rfl dX1_trade_21 rfl hM (xe_6 hs0 (by have := q1; omega)).2
theorem mX1_trade {l : Launch} {G : xG} (hl : l.stackTraces = false) (x0 : Nat) (h0 : xOb 1 x0) (x1 : Int) (h1 : R32 x1) (M : xM) (hM : xcan M) : Cm l G yX1_trade cX1_trade 2 (some (.object "SettlementRing$Trade")) 1 20 0 0 [.ref x0, iv x1] M (fX1_trade x0 x1 M) := by
  refine xcm_of (u := uX1_trade) (ls := [some (.ref x0), some (iv x1)]) 0 hl rfl (by decide +kernel) (Nat.le_of_ble_eq_true rfl) rfl ?_
  unfold fX1_trade
  refine xg_aload_n dX1_trade_0 (Eq.refl 1) rfl ?_
  refine xg_getR (k := 4) xcl1 h0 rfl xq_44 rfl (xt_1_4 h0).1 dX1_trade_1 (Eq.refl 4) ?_
  refine xg_iload_n dX1_trade_4 (Eq.refl 5) rfl ?_
  refine xg_if_lt (tgt := 14) dX1_trade_5 (Eq.refl 8) (by decide) h1 ?_ ?_
  · exact xg_jump (gX1_trade_14 hl (xr x0 4) (xt_1_4 h0).2 M hM) (xsb_n (xsb_n xsb_0)) (by decide) (by decide)
  · refine xg_iload_n dX1_trade_8 (Eq.refl 9) rfl ?_
    refine xg_bipush dX1_trade_9 (Eq.refl 11) (by decide +kernel) ?_
    refine xg_icmp_le (tgt := 19) dX1_trade_11 (Eq.refl 14) (by decide) h1 (by decide) ?_ ?_
    · refine xg_iload_n dX1_trade_19 (Eq.refl 20) rfl ?_
      refine xg_aald (xt_1_4 h0).2 (by decide) (by decide) rfl (fun _ hi => (xe_6 (xt_1_4 h0).2 hi).1) dX1_trade_20 (Eq.refl 21) ?_
      intro q1
      exact xg_aret rfl dX1_trade_21 rfl hM (xe_6 (xt_1_4 h0).2 (by have := q1; omega)).2
    · exact xg_jump (gX1_trade_14 hl (xr x0 4) (xt_1_4 h0).2 M hM) (xsb_n (xsb_n xsb_0)) (by decide) (by decide)
abbrev uX1_linkAt : xU := (RX1, cX1_linkAt, 2, (some (.object "SettlementRing$Link")), [], "linkAt")
theorem bX1_linkAt : xYV yX1_linkAt cX1_linkAt 2 (some (.object "SettlementRing$Link")) 1 := ⟨xq_367, xq_368, xq_17, xq_369, ⟨by decide +kernel, by decide +kernel, by decide +kernel⟩, by decide⟩
theorem gX1_linkAt_14 {l : Launch} {G : xG} (hl : l.stackTraces = false) (s0 : Nat) (hs0 : xAn 7 11 s0) (M : xM) (hM : xcan M) : Gv l G uX1_linkAt 1 16 0 0 14 [none, none] [.ref s0] M (fX1_linkAt_14 s0 M) := by
  unfold fX1_linkAt_14
  refine xg_bipush dX1_linkAt_14 (Eq.refl 16) (by decide +kernel) ?_
  refine xg_goto (tgt := 20) dX1_linkAt_16 (by decide) ?_
  refine xg_aald hs0 (by decide) (by decide) rfl (fun _ hi => (xe_7 hs0 hi).1) dX1_linkAt_20 (Eq.refl 21) ?_
  intro q1
  exact xg_aret rfl dX1_linkAt_21 rfl hM (xe_7 hs0 (by have := q1; omega)).2
theorem mX1_linkAt {l : Launch} {G : xG} (hl : l.stackTraces = false) (x0 : Nat) (h0 : xOb 1 x0) (x1 : Int) (h1 : R32 x1) (M : xM) (hM : xcan M) : Cm l G yX1_linkAt cX1_linkAt 2 (some (.object "SettlementRing$Link")) 1 16 0 0 [.ref x0, iv x1] M (fX1_linkAt x0 x1 M) := by
  refine xcm_of (u := uX1_linkAt) (ls := [some (.ref x0), some (iv x1)]) 0 hl rfl (by decide +kernel) (Nat.le_of_ble_eq_true rfl) rfl ?_
  unfold fX1_linkAt
  refine xg_aload_n dX1_linkAt_0 (Eq.refl 1) rfl ?_
  refine xg_getR (k := 5) xcl1 h0 rfl xq_46 rfl (xt_1_5 h0).1 dX1_linkAt_1 (Eq.refl 4) ?_
  refine xg_iload_n dX1_linkAt_4 (Eq.refl 5) rfl ?_
  refine xg_if_lt (tgt := 14) dX1_linkAt_5 (Eq.refl 8) (by decide) h1 ?_ ?_
  · exact xg_jump (gX1_linkAt_14 hl (xr x0 5) (xt_1_5 h0).2 M hM) (xsb_n (xsb_n xsb_0)) (by decide) (by decide)
  · refine xg_iload_n dX1_linkAt_8 (Eq.refl 9) rfl ?_
    refine xg_bipush dX1_linkAt_9 (Eq.refl 11) (by decide +kernel) ?_
    refine xg_icmp_le (tgt := 19) dX1_linkAt_11 (Eq.refl 14) (by decide) h1 (by decide) ?_ ?_
    · refine xg_iload_n dX1_linkAt_19 (Eq.refl 20) rfl ?_
      refine xg_aald (xt_1_5 h0).2 (by decide) (by decide) rfl (fun _ hi => (xe_7 (xt_1_5 h0).2 hi).1) dX1_linkAt_20 (Eq.refl 21) ?_
      intro q1
      exact xg_aret rfl dX1_linkAt_21 rfl hM (xe_7 (xt_1_5 h0).2 (by have := q1; omega)).2
    · exact xg_jump (gX1_linkAt_14 hl (xr x0 5) (xt_1_5 h0).2 M hM) (xsb_n (xsb_n xsb_0)) (by decide) (by decide)
abbrev uX1_loanAt : xU := (RX1, cX1_loanAt, 2, (some (.object "SettlementRing$Loan")), [], "loanAt")
theorem bX1_loanAt : xYV yX1_loanAt cX1_loanAt 2 (some (.object "SettlementRing$Loan")) 1 := ⟨xq_601, xq_602, xq_17, xq_603, ⟨by decide +kernel, by decide +kernel, by decide +kernel⟩, by decide⟩
theorem gX1_loanAt_14 {l : Launch} {G : xG} (hl : l.stackTraces = false) (s0 : Nat) (hs0 : xAn 8 21 s0) (M : xM) (hM : xcan M) : Gv l G uX1_loanAt 1 17 0 0 14 [none, none] [.ref s0] M (fX1_loanAt_14 s0 M) := by
  unfold fX1_loanAt_14
  refine xg_bipush dX1_loanAt_14 (Eq.refl 16) (by decide +kernel) ?_
  refine xg_goto (tgt := 20) dX1_loanAt_16 (by decide) ?_
  refine xg_aald hs0 (by decide) (by decide) rfl (fun _ hi => (xe_8 hs0 hi).1) dX1_loanAt_20 (Eq.refl 21) ?_
  intro q1
  exact xg_aret rfl dX1_loanAt_21 rfl hM (xe_8 hs0 (by have := q1; omega)).2
theorem mX1_loanAt {l : Launch} {G : xG} (hl : l.stackTraces = false) (x0 : Nat) (h0 : xOb 1 x0) (x1 : Int) (h1 : R32 x1) (M : xM) (hM : xcan M) : Cm l G yX1_loanAt cX1_loanAt 2 (some (.object "SettlementRing$Loan")) 1 17 0 0 [.ref x0, iv x1] M (fX1_loanAt x0 x1 M) := by
  refine xcm_of (u := uX1_loanAt) (ls := [some (.ref x0), some (iv x1)]) 0 hl rfl (by decide +kernel) (Nat.le_of_ble_eq_true rfl) rfl ?_
  unfold fX1_loanAt
  refine xg_aload_n dX1_loanAt_0 (Eq.refl 1) rfl ?_
  refine xg_getR (k := 6) xcl1 h0 rfl xq_48 rfl (xt_1_6 h0).1 dX1_loanAt_1 (Eq.refl 4) ?_
  refine xg_iload_n dX1_loanAt_4 (Eq.refl 5) rfl ?_
  refine xg_if_lt (tgt := 14) dX1_loanAt_5 (Eq.refl 8) (by decide) h1 ?_ ?_
  · exact xg_jump (gX1_loanAt_14 hl (xr x0 6) (xt_1_6 h0).2 M hM) (xsb_n (xsb_n xsb_0)) (by decide) (by decide)
  · refine xg_iload_n dX1_loanAt_8 (Eq.refl 9) rfl ?_
    refine xg_bipush dX1_loanAt_9 (Eq.refl 11) (by decide +kernel) ?_
    refine xg_icmp_le (tgt := 19) dX1_loanAt_11 (Eq.refl 14) (by decide) h1 (by decide) ?_ ?_
    · refine xg_iload_n dX1_loanAt_19 (Eq.refl 20) rfl ?_
      refine xg_aald (xt_1_6 h0).2 (by decide) (by decide) rfl (fun _ hi => (xe_8 (xt_1_6 h0).2 hi).1) dX1_loanAt_20 (Eq.refl 21) ?_
      intro q1
      exact xg_aret rfl dX1_loanAt_21 rfl hM (xe_8 (xt_1_6 h0).2 (by have := q1; omega)).2
    · exact xg_jump (gX1_loanAt_14 hl (xr x0 6) (xt_1_6 h0).2 M hM) (xsb_n (xsb_n xsb_0)) (by decide) (by decide)
abbrev uX1_event : xU := (RX1, cX1_event, 2, (some (.object "SettlementRing$Event")), [], "event")
theorem bX1_event : xYV yX1_event cX1_event 2 (some (.object "SettlementRing$Event")) 1 := ⟨xq_620, xq_621, xq_17, xq_622, ⟨by decide +kernel, by decide +kernel, by decide +kernel⟩, by decide⟩
theorem gX1_event_14 {l : Launch} {G : xG} (hl : l.stackTraces = false) (s0 : Nat) (hs0 : xAn 9 11 s0) (M : xM) (hM : xcan M) : Gv l G uX1_event 1 14 0 0 14 [none, none] [.ref s0] M (fX1_event_14 s0 M) := by
  unfold fX1_event_14
  refine xg_bipush dX1_event_14 (Eq.refl 16) (by decide +kernel) ?_
  refine xg_goto (tgt := 20) dX1_event_16 (by decide) ?_
  refine xg_aald hs0 (by decide) (by decide) rfl (fun _ hi => (xe_9 hs0 hi).1) dX1_event_20 (Eq.refl 21) ?_
  intro q1
  exact xg_aret rfl dX1_event_21 rfl hM (xe_9 hs0 (by have := q1; omega)).2
theorem mX1_event {l : Launch} {G : xG} (hl : l.stackTraces = false) (x0 : Nat) (h0 : xOb 1 x0) (x1 : Int) (h1 : R32 x1) (M : xM) (hM : xcan M) : Cm l G yX1_event cX1_event 2 (some (.object "SettlementRing$Event")) 1 14 0 0 [.ref x0, iv x1] M (fX1_event x0 x1 M) := by
  refine xcm_of (u := uX1_event) (ls := [some (.ref x0), some (iv x1)]) 0 hl rfl (by decide +kernel) (Nat.le_of_ble_eq_true rfl) rfl ?_
  unfold fX1_event
  refine xg_aload_n dX1_event_0 (Eq.refl 1) rfl ?_
  refine xg_getR (k := 7) xcl1 h0 rfl xq_50 rfl (xt_1_7 h0).1 dX1_event_1 (Eq.refl 4) ?_
  refine xg_iload_n dX1_event_4 (Eq.refl 5) rfl ?_
  refine xg_if_lt (tgt := 14) dX1_event_5 (Eq.refl 8) (by decide) h1 ?_ ?_
  · exact xg_jump (gX1_event_14 hl (xr x0 7) (xt_1_7 h0).2 M hM) (xsb_n (xsb_n xsb_0)) (by decide) (by decide)
  · refine xg_iload_n dX1_event_8 (Eq.refl 9) rfl ?_
    refine xg_bipush dX1_event_9 (Eq.refl 11) (by decide +kernel) ?_
    refine xg_icmp_le (tgt := 19) dX1_event_11 (Eq.refl 14) (by decide) h1 (by decide) ?_ ?_
    · refine xg_iload_n dX1_event_19 (Eq.refl 20) rfl ?_
      refine xg_aald (xt_1_7 h0).2 (by decide) (by decide) rfl (fun _ hi => (xe_9 (xt_1_7 h0).2 hi).1) dX1_event_20 (Eq.refl 21) ?_
      intro q1
      exact xg_aret rfl dX1_event_21 rfl hM (xe_9 (xt_1_7 h0).2 (by have := q1; omega)).2
    · exact xg_jump (gX1_event_14 hl (xr x0 7) (xt_1_7 h0).2 M hM) (xsb_n (xsb_n xsb_0)) (by decide) (by decide)
abbrev uX9_copyFrom : xU := (RX9, cX9_copyFrom, 2, none, [], "copyFrom")
theorem bX9_copyFrom : xYV yX9_copyFrom cX9_copyFrom 2 none 1 := ⟨xq_933, xq_934, xq_57, xq_935, ⟨by decide +kernel, by decide +kernel, by decide +kernel⟩, by decide⟩
theorem mX9_copyFrom {l : Launch} {G : xG} (hl : l.stackTraces = false) (x0 : Nat) (h0 : xOb 9 x0) (x1 : Nat) (h1 : xOb 9 x1) (M : xM) (hM : xcan M) : Cm l G yX9_copyFrom cX9_copyFrom 2 none 1 3 0 0 [.ref x0, .ref x1] M (fX9_copyFrom x0 x1 M) := by
  refine xcm_of (u := uX9_copyFrom) (ls := [some (.ref x0), some (.ref x1)]) 0 hl rfl (by decide +kernel) (Nat.le_of_ble_eq_true rfl) rfl ?_
  unfold fX9_copyFrom
  refine xg_aload_n dX9_copyFrom_0 (Eq.refl 1) rfl ?_
  refine xg_aload_n dX9_copyFrom_1 (Eq.refl 2) rfl ?_
  refine xg_getI (k := 0) xcl9 h1 rfl xq_936 rfl dX9_copyFrom_2 (Eq.refl 5) ?_
  refine xg_putI (k := 0) xcl9 h0 rfl xq_936 rfl (by decide +kernel) dX9_copyFrom_5 (Eq.refl 8) rfl hM (hM.I h1 rfl) ?_
  intro M1 hM1
  refine xg_aload_n dX9_copyFrom_8 (Eq.refl 9) rfl ?_
  refine xg_aload_n dX9_copyFrom_9 (Eq.refl 10) rfl ?_
  refine xg_getI (k := 1) xcl9 h1 rfl xq_937 rfl dX9_copyFrom_10 (Eq.refl 13) ?_
  refine xg_putI (k := 1) xcl9 h0 rfl xq_937 rfl (by decide +kernel) dX9_copyFrom_13 (Eq.refl 16) rfl hM1 (hM1.I h1 rfl) ?_
  intro M2 hM2
  refine xg_aload_n dX9_copyFrom_16 (Eq.refl 17) rfl ?_
  refine xg_aload_n dX9_copyFrom_17 (Eq.refl 18) rfl ?_
  refine xg_getI (k := 2) xcl9 h1 rfl xq_938 rfl dX9_copyFrom_18 (Eq.refl 21) ?_
  refine xg_putI (k := 2) xcl9 h0 rfl xq_938 rfl (by decide +kernel) dX9_copyFrom_21 (Eq.refl 24) rfl hM2 (hM2.I h1 rfl) ?_
  intro M3 hM3
  refine xg_aload_n dX9_copyFrom_24 (Eq.refl 25) rfl ?_
  refine xg_aload_n dX9_copyFrom_25 (Eq.refl 26) rfl ?_
  refine xg_getJ (k := 3) xcl9 h1 rfl xq_939 rfl dX9_copyFrom_26 (Eq.refl 29) ?_
  refine xg_putJ (k := 3) xcl9 h0 rfl xq_939 rfl (by decide +kernel) dX9_copyFrom_29 (Eq.refl 32) rfl hM3 (hM3.J h1 rfl) ?_
  intro M4 hM4
  exact xg_vret rfl dX9_copyFrom_32 rfl hM4
abbrev uX5_copyFrom : xU := (RX5, cX5_copyFrom, 2, none, [], "copyFrom")
theorem bX5_copyFrom : xYV yX5_copyFrom cX5_copyFrom 2 none 1 := ⟨xq_941, xq_942, xq_59, xq_943, ⟨by decide +kernel, by decide +kernel, by decide +kernel⟩, by decide⟩
theorem mX5_copyFrom {l : Launch} {G : xG} (hl : l.stackTraces = false) (x0 : Nat) (h0 : xOb 5 x0) (x1 : Nat) (h1 : xOb 5 x1) (M : xM) (hM : xcan M) : Cm l G yX5_copyFrom cX5_copyFrom 2 none 1 3 0 0 [.ref x0, .ref x1] M (fX5_copyFrom x0 x1 M) := by
  refine xcm_of (u := uX5_copyFrom) (ls := [some (.ref x0), some (.ref x1)]) 0 hl rfl (by decide +kernel) (Nat.le_of_ble_eq_true rfl) rfl ?_
  unfold fX5_copyFrom
  refine xg_aload_n dX5_copyFrom_0 (Eq.refl 1) rfl ?_
  refine xg_aload_n dX5_copyFrom_1 (Eq.refl 2) rfl ?_
  refine xg_getI (k := 0) xcl5 h1 rfl xq_460 rfl dX5_copyFrom_2 (Eq.refl 5) ?_
  refine xg_putI (k := 0) xcl5 h0 rfl xq_460 rfl (by decide +kernel) dX5_copyFrom_5 (Eq.refl 8) rfl hM (hM.I h1 rfl) ?_
  intro M1 hM1
  refine xg_aload_n dX5_copyFrom_8 (Eq.refl 9) rfl ?_
  refine xg_aload_n dX5_copyFrom_9 (Eq.refl 10) rfl ?_
  refine xg_getI (k := 1) xcl5 h1 rfl xq_461 rfl dX5_copyFrom_10 (Eq.refl 13) ?_
  refine xg_putI (k := 1) xcl5 h0 rfl xq_461 rfl (by decide +kernel) dX5_copyFrom_13 (Eq.refl 16) rfl hM1 (hM1.I h1 rfl) ?_
  intro M2 hM2
  refine xg_aload_n dX5_copyFrom_16 (Eq.refl 17) rfl ?_
  refine xg_aload_n dX5_copyFrom_17 (Eq.refl 18) rfl ?_
  refine xg_getZ (k := 2) xcl5 h1 rfl xq_462 rfl dX5_copyFrom_18 (Eq.refl 21) hM2 ?_
  refine xg_putZ (k := 2) xcl5 h0 rfl xq_462 rfl (by decide +kernel) dX5_copyFrom_21 (Eq.refl 24) rfl hM2 (hM2.Z h1 rfl) ?_
  intro M3 hM3
  refine xg_aload_n dX5_copyFrom_24 (Eq.refl 25) rfl ?_
  refine xg_aload_n dX5_copyFrom_25 (Eq.refl 26) rfl ?_
  refine xg_getI (k := 3) xcl5 h1 rfl xq_463 rfl dX5_copyFrom_26 (Eq.refl 29) ?_
  refine xg_putI (k := 3) xcl5 h0 rfl xq_463 rfl (by decide +kernel) dX5_copyFrom_29 (Eq.refl 32) rfl hM3 (hM3.I h1 rfl) ?_
  intro M4 hM4
  refine xg_aload_n dX5_copyFrom_32 (Eq.refl 33) rfl ?_
  refine xg_aload_n dX5_copyFrom_33 (Eq.refl 34) rfl ?_
  refine xg_getI (k := 4) xcl5 h1 rfl xq_464 rfl dX5_copyFrom_34 (Eq.refl 37) ?_
  refine xg_putI (k := 4) xcl5 h0 rfl xq_464 rfl (by decide +kernel) dX5_copyFrom_37 (Eq.refl 40) rfl hM4 (hM4.I h1 rfl) ?_
  intro M5 hM5
  refine xg_aload_n dX5_copyFrom_40 (Eq.refl 41) rfl ?_
  refine xg_aload_n dX5_copyFrom_41 (Eq.refl 42) rfl ?_
  refine xg_getI (k := 5) xcl5 h1 rfl xq_466 rfl dX5_copyFrom_42 (Eq.refl 45) ?_
  refine xg_putI (k := 5) xcl5 h0 rfl xq_466 rfl (by decide +kernel) dX5_copyFrom_45 (Eq.refl 48) rfl hM5 (hM5.I h1 rfl) ?_
  intro M6 hM6
  refine xg_aload_n dX5_copyFrom_48 (Eq.refl 49) rfl ?_
  refine xg_aload_n dX5_copyFrom_49 (Eq.refl 50) rfl ?_
  refine xg_getI (k := 6) xcl5 h1 rfl xq_465 rfl dX5_copyFrom_50 (Eq.refl 53) ?_
  refine xg_putI (k := 6) xcl5 h0 rfl xq_465 rfl (by decide +kernel) dX5_copyFrom_53 (Eq.refl 56) rfl hM6 (hM6.I h1 rfl) ?_
  intro M7 hM7
  refine xg_aload_n dX5_copyFrom_56 (Eq.refl 57) rfl ?_
  refine xg_aload_n dX5_copyFrom_57 (Eq.refl 58) rfl ?_
  refine xg_getI (k := 7) xcl5 h1 rfl xq_944 rfl dX5_copyFrom_58 (Eq.refl 61) ?_
  refine xg_putI (k := 7) xcl5 h0 rfl xq_944 rfl (by decide +kernel) dX5_copyFrom_61 (Eq.refl 64) rfl hM7 (hM7.I h1 rfl) ?_
  intro M8 hM8
  refine xg_aload_n dX5_copyFrom_64 (Eq.refl 65) rfl ?_
  refine xg_aload_n dX5_copyFrom_65 (Eq.refl 66) rfl ?_
  refine xg_getI (k := 8) xcl5 h1 rfl xq_945 rfl dX5_copyFrom_66 (Eq.refl 69) ?_
  refine xg_putI (k := 8) xcl5 h0 rfl xq_945 rfl (by decide +kernel) dX5_copyFrom_69 (Eq.refl 72) rfl hM8 (hM8.I h1 rfl) ?_
  intro M9 hM9
  refine xg_aload_n dX5_copyFrom_72 (Eq.refl 73) rfl ?_
  refine xg_aload_n dX5_copyFrom_73 (Eq.refl 74) rfl ?_
  refine xg_getI (k := 9) xcl5 h1 rfl xq_82 rfl dX5_copyFrom_74 (Eq.refl 77) ?_
  refine xg_putI (k := 9) xcl5 h0 rfl xq_82 rfl (by decide +kernel) dX5_copyFrom_77 (Eq.refl 80) rfl hM9 (hM9.I h1 rfl) ?_
  intro M10 hM10
  refine xg_aload_n dX5_copyFrom_80 (Eq.refl 81) rfl ?_
  refine xg_aload_n dX5_copyFrom_81 (Eq.refl 82) rfl ?_
  refine xg_getI (k := 10) xcl5 h1 rfl xq_83 rfl dX5_copyFrom_82 (Eq.refl 85) ?_
  refine xg_putI (k := 10) xcl5 h0 rfl xq_83 rfl (by decide +kernel) dX5_copyFrom_85 (Eq.refl 88) rfl hM10 (hM10.I h1 rfl) ?_
  intro M11 hM11
  refine xg_aload_n dX5_copyFrom_88 (Eq.refl 89) rfl ?_
  refine xg_aload_n dX5_copyFrom_89 (Eq.refl 90) rfl ?_
  refine xg_getZ (k := 11) xcl5 h1 rfl xq_946 rfl dX5_copyFrom_90 (Eq.refl 93) hM11 ?_
  refine xg_putZ (k := 11) xcl5 h0 rfl xq_946 rfl (by decide +kernel) dX5_copyFrom_93 (Eq.refl 96) rfl hM11 (hM11.Z h1 rfl) ?_
  intro M12 hM12
  refine xg_aload_n dX5_copyFrom_96 (Eq.refl 97) rfl ?_
  refine xg_aload_n dX5_copyFrom_97 (Eq.refl 98) rfl ?_
  refine xg_getZ (k := 12) xcl5 h1 rfl xq_947 rfl dX5_copyFrom_98 (Eq.refl 101) hM12 ?_
  refine xg_putZ (k := 12) xcl5 h0 rfl xq_947 rfl (by decide +kernel) dX5_copyFrom_101 (Eq.refl 104) rfl hM12 (hM12.Z h1 rfl) ?_
  intro M13 hM13
  exact xg_vret rfl dX5_copyFrom_104 rfl hM13
abbrev uX10_copyFrom : xU := (RX10, cX10_copyFrom, 2, none, [], "copyFrom")
theorem bX10_copyFrom : xYV yX10_copyFrom cX10_copyFrom 2 none 1 := ⟨xq_949, xq_950, xq_61, xq_951, ⟨by decide +kernel, by decide +kernel, by decide +kernel⟩, by decide⟩
theorem mX10_copyFrom {l : Launch} {G : xG} (hl : l.stackTraces = false) (x0 : Nat) (h0 : xOb 10 x0) (x1 : Nat) (h1 : xOb 10 x1) (M : xM) (hM : xcan M) : Cm l G yX10_copyFrom cX10_copyFrom 2 none 1 3 0 0 [.ref x0, .ref x1] M (fX10_copyFrom x0 x1 M) := by
  refine xcm_of (u := uX10_copyFrom) (ls := [some (.ref x0), some (.ref x1)]) 0 hl rfl (by decide +kernel) (Nat.le_of_ble_eq_true rfl) rfl ?_
  unfold fX10_copyFrom
  refine xg_aload_n dX10_copyFrom_0 (Eq.refl 1) rfl ?_
  refine xg_aload_n dX10_copyFrom_1 (Eq.refl 2) rfl ?_
  refine xg_getI (k := 1) xcl10 h1 rfl xq_952 rfl dX10_copyFrom_2 (Eq.refl 5) ?_
  refine xg_putI (k := 1) xcl10 h0 rfl xq_952 rfl (by decide +kernel) dX10_copyFrom_5 (Eq.refl 8) rfl hM (hM.I h1 rfl) ?_
  intro M1 hM1
  refine xg_aload_n dX10_copyFrom_8 (Eq.refl 9) rfl ?_
  refine xg_aload_n dX10_copyFrom_9 (Eq.refl 10) rfl ?_
  refine xg_getI (k := 2) xcl10 h1 rfl xq_953 rfl dX10_copyFrom_10 (Eq.refl 13) ?_
  refine xg_putI (k := 2) xcl10 h0 rfl xq_953 rfl (by decide +kernel) dX10_copyFrom_13 (Eq.refl 16) rfl hM1 (hM1.I h1 rfl) ?_
  intro M2 hM2
  refine xg_aload_n dX10_copyFrom_16 (Eq.refl 17) rfl ?_
  refine xg_aload_n dX10_copyFrom_17 (Eq.refl 18) rfl ?_
  refine xg_getI (k := 3) xcl10 h1 rfl xq_954 rfl dX10_copyFrom_18 (Eq.refl 21) ?_
  refine xg_putI (k := 3) xcl10 h0 rfl xq_954 rfl (by decide +kernel) dX10_copyFrom_21 (Eq.refl 24) rfl hM2 (hM2.I h1 rfl) ?_
  intro M3 hM3
  refine xg_aload_n dX10_copyFrom_24 (Eq.refl 25) rfl ?_
  refine xg_aload_n dX10_copyFrom_25 (Eq.refl 26) rfl ?_
  refine xg_getI (k := 4) xcl10 h1 rfl xq_955 rfl dX10_copyFrom_26 (Eq.refl 29) ?_
  refine xg_putI (k := 4) xcl10 h0 rfl xq_955 rfl (by decide +kernel) dX10_copyFrom_29 (Eq.refl 32) rfl hM3 (hM3.I h1 rfl) ?_
  intro M4 hM4
  refine xg_aload_n dX10_copyFrom_32 (Eq.refl 33) rfl ?_
  refine xg_aload_n dX10_copyFrom_33 (Eq.refl 34) rfl ?_
  refine xg_getI (k := 5) xcl10 h1 rfl xq_956 rfl dX10_copyFrom_34 (Eq.refl 37) ?_
  refine xg_putI (k := 5) xcl10 h0 rfl xq_956 rfl (by decide +kernel) dX10_copyFrom_37 (Eq.refl 40) rfl hM4 (hM4.I h1 rfl) ?_
  intro M5 hM5
  refine xg_aload_n dX10_copyFrom_40 (Eq.refl 41) rfl ?_
  refine xg_aload_n dX10_copyFrom_41 (Eq.refl 42) rfl ?_
  refine xg_getJ (k := 6) xcl10 h1 rfl xq_957 rfl dX10_copyFrom_42 (Eq.refl 45) ?_
  refine xg_putJ (k := 6) xcl10 h0 rfl xq_957 rfl (by decide +kernel) dX10_copyFrom_45 (Eq.refl 48) rfl hM5 (hM5.J h1 rfl) ?_
  intro M6 hM6
  refine xg_aload_n dX10_copyFrom_48 (Eq.refl 49) rfl ?_
  refine xg_aload_n dX10_copyFrom_49 (Eq.refl 50) rfl ?_
  refine xg_getJ (k := 7) xcl10 h1 rfl xq_958 rfl dX10_copyFrom_50 (Eq.refl 53) ?_
  refine xg_putJ (k := 7) xcl10 h0 rfl xq_958 rfl (by decide +kernel) dX10_copyFrom_53 (Eq.refl 56) rfl hM6 (hM6.J h1 rfl) ?_
  intro M7 hM7
  refine xg_aload_n dX10_copyFrom_56 (Eq.refl 57) rfl ?_
  refine xg_aload_n dX10_copyFrom_57 (Eq.refl 58) rfl ?_
  refine xg_getJ (k := 8) xcl10 h1 rfl xq_959 rfl dX10_copyFrom_58 (Eq.refl 61) ?_
  refine xg_putJ (k := 8) xcl10 h0 rfl xq_959 rfl (by decide +kernel) dX10_copyFrom_61 (Eq.refl 64) rfl hM7 (hM7.J h1 rfl) ?_
  intro M8 hM8
  refine xg_aload_n dX10_copyFrom_64 (Eq.refl 65) rfl ?_
  refine xg_aload_n dX10_copyFrom_65 (Eq.refl 66) rfl ?_
  refine xg_getI (k := 9) xcl10 h1 rfl xq_960 rfl dX10_copyFrom_66 (Eq.refl 69) ?_
  refine xg_putI (k := 9) xcl10 h0 rfl xq_960 rfl (by decide +kernel) dX10_copyFrom_69 (Eq.refl 72) rfl hM8 (hM8.I h1 rfl) ?_
  intro M9 hM9
  refine xg_aload_n dX10_copyFrom_72 (Eq.refl 73) rfl ?_
  refine xg_aload_n dX10_copyFrom_73 (Eq.refl 74) rfl ?_
  refine xg_getI (k := 10) xcl10 h1 rfl xq_961 rfl dX10_copyFrom_74 (Eq.refl 77) ?_
  refine xg_putI (k := 10) xcl10 h0 rfl xq_961 rfl (by decide +kernel) dX10_copyFrom_77 (Eq.refl 80) rfl hM9 (hM9.I h1 rfl) ?_
  intro M10 hM10
  refine xg_aload_n dX10_copyFrom_80 (Eq.refl 81) rfl ?_
  refine xg_aload_n dX10_copyFrom_81 (Eq.refl 82) rfl ?_
  refine xg_getI (k := 11) xcl10 h1 rfl xq_962 rfl dX10_copyFrom_82 (Eq.refl 85) ?_
  refine xg_putI (k := 11) xcl10 h0 rfl xq_962 rfl (by decide +kernel) dX10_copyFrom_85 (Eq.refl 88) rfl hM10 (hM10.I h1 rfl) ?_
  intro M11 hM11
  refine xg_aload_n dX10_copyFrom_88 (Eq.refl 89) rfl ?_
  refine xg_aload_n dX10_copyFrom_89 (Eq.refl 90) rfl ?_
  refine xg_getI (k := 12) xcl10 h1 rfl xq_88 rfl dX10_copyFrom_90 (Eq.refl 93) ?_
  refine xg_putI (k := 12) xcl10 h0 rfl xq_88 rfl (by decide +kernel) dX10_copyFrom_93 (Eq.refl 96) rfl hM11 (hM11.I h1 rfl) ?_
  intro M12 hM12
  exact xg_vret rfl dX10_copyFrom_96 rfl hM12
abbrev uX6_copyFrom : xU := (RX6, cX6_copyFrom, 2, none, [], "copyFrom")
theorem bX6_copyFrom : xYV yX6_copyFrom cX6_copyFrom 2 none 1 := ⟨xq_557, xq_558, xq_63, xq_559, ⟨by decide +kernel, by decide +kernel, by decide +kernel⟩, by decide⟩
theorem mX6_copyFrom {l : Launch} {G : xG} (hl : l.stackTraces = false) (x0 : Nat) (h0 : xOb 6 x0) (x1 : Nat) (h1 : xOb 6 x1) (M : xM) (hM : xcan M) : Cm l G yX6_copyFrom cX6_copyFrom 2 none 1 3 0 0 [.ref x0, .ref x1] M (fX6_copyFrom x0 x1 M) := by
  refine xcm_of (u := uX6_copyFrom) (ls := [some (.ref x0), some (.ref x1)]) 0 hl rfl (by decide +kernel) (Nat.le_of_ble_eq_true rfl) rfl ?_
  unfold fX6_copyFrom
  refine xg_aload_n dX6_copyFrom_0 (Eq.refl 1) rfl ?_
  refine xg_aload_n dX6_copyFrom_1 (Eq.refl 2) rfl ?_
  refine xg_getI (k := 0) xcl6 h1 rfl xq_554 rfl dX6_copyFrom_2 (Eq.refl 5) ?_
  refine xg_putI (k := 0) xcl6 h0 rfl xq_554 rfl (by decide +kernel) dX6_copyFrom_5 (Eq.refl 8) rfl hM (hM.I h1 rfl) ?_
  intro M1 hM1
  refine xg_aload_n dX6_copyFrom_8 (Eq.refl 9) rfl ?_
  refine xg_aload_n dX6_copyFrom_9 (Eq.refl 10) rfl ?_
  refine xg_getI (k := 1) xcl6 h1 rfl xq_555 rfl dX6_copyFrom_10 (Eq.refl 13) ?_
  refine xg_putI (k := 1) xcl6 h0 rfl xq_555 rfl (by decide +kernel) dX6_copyFrom_13 (Eq.refl 16) rfl hM1 (hM1.I h1 rfl) ?_
  intro M2 hM2
  refine xg_aload_n dX6_copyFrom_16 (Eq.refl 17) rfl ?_
  refine xg_aload_n dX6_copyFrom_17 (Eq.refl 18) rfl ?_
  refine xg_getZ (k := 2) xcl6 h1 rfl xq_560 rfl dX6_copyFrom_18 (Eq.refl 21) hM2 ?_
  refine xg_putZ (k := 2) xcl6 h0 rfl xq_560 rfl (by decide +kernel) dX6_copyFrom_21 (Eq.refl 24) rfl hM2 (hM2.Z h1 rfl) ?_
  intro M3 hM3
  exact xg_vret rfl dX6_copyFrom_24 rfl hM3
abbrev uX7_copyFrom : xU := (RX7, cX7_copyFrom, 2, none, [], "copyFrom")
theorem bX7_copyFrom : xYV yX7_copyFrom cX7_copyFrom 2 none 1 := ⟨xq_965, xq_966, xq_65, xq_967, ⟨by decide +kernel, by decide +kernel, by decide +kernel⟩, by decide⟩
theorem mX7_copyFrom {l : Launch} {G : xG} (hl : l.stackTraces = false) (x0 : Nat) (h0 : xOb 7 x0) (x1 : Nat) (h1 : xOb 7 x1) (M : xM) (hM : xcan M) : Cm l G yX7_copyFrom cX7_copyFrom 2 none 1 3 0 0 [.ref x0, .ref x1] M (fX7_copyFrom x0 x1 M) := by
  refine xcm_of (u := uX7_copyFrom) (ls := [some (.ref x0), some (.ref x1)]) 0 hl rfl (by decide +kernel) (Nat.le_of_ble_eq_true rfl) rfl ?_
  unfold fX7_copyFrom
  refine xg_aload_n dX7_copyFrom_0 (Eq.refl 1) rfl ?_
  refine xg_aload_n dX7_copyFrom_1 (Eq.refl 2) rfl ?_
  refine xg_getI (k := 0) xcl7 h1 rfl xq_968 rfl dX7_copyFrom_2 (Eq.refl 5) ?_
  refine xg_putI (k := 0) xcl7 h0 rfl xq_968 rfl (by decide +kernel) dX7_copyFrom_5 (Eq.refl 8) rfl hM (hM.I h1 rfl) ?_
  intro M1 hM1
  refine xg_aload_n dX7_copyFrom_8 (Eq.refl 9) rfl ?_
  refine xg_aload_n dX7_copyFrom_9 (Eq.refl 10) rfl ?_
  refine xg_getI (k := 1) xcl7 h1 rfl xq_969 rfl dX7_copyFrom_10 (Eq.refl 13) ?_
  refine xg_putI (k := 1) xcl7 h0 rfl xq_969 rfl (by decide +kernel) dX7_copyFrom_13 (Eq.refl 16) rfl hM1 (hM1.I h1 rfl) ?_
  intro M2 hM2
  refine xg_aload_n dX7_copyFrom_16 (Eq.refl 17) rfl ?_
  refine xg_aload_n dX7_copyFrom_17 (Eq.refl 18) rfl ?_
  refine xg_getI (k := 2) xcl7 h1 rfl xq_970 rfl dX7_copyFrom_18 (Eq.refl 21) ?_
  refine xg_putI (k := 2) xcl7 h0 rfl xq_970 rfl (by decide +kernel) dX7_copyFrom_21 (Eq.refl 24) rfl hM2 (hM2.I h1 rfl) ?_
  intro M3 hM3
  refine xg_aload_n dX7_copyFrom_24 (Eq.refl 25) rfl ?_
  refine xg_aload_n dX7_copyFrom_25 (Eq.refl 26) rfl ?_
  refine xg_getJ (k := 3) xcl7 h1 rfl xq_971 rfl dX7_copyFrom_26 (Eq.refl 29) ?_
  refine xg_putJ (k := 3) xcl7 h0 rfl xq_971 rfl (by decide +kernel) dX7_copyFrom_29 (Eq.refl 32) rfl hM3 (hM3.J h1 rfl) ?_
  intro M4 hM4
  refine xg_aload_n dX7_copyFrom_32 (Eq.refl 33) rfl ?_
  refine xg_aload_n dX7_copyFrom_33 (Eq.refl 34) rfl ?_
  refine xg_getJ (k := 4) xcl7 h1 rfl xq_972 rfl dX7_copyFrom_34 (Eq.refl 37) ?_
  refine xg_putJ (k := 4) xcl7 h0 rfl xq_972 rfl (by decide +kernel) dX7_copyFrom_37 (Eq.refl 40) rfl hM4 (hM4.J h1 rfl) ?_
  intro M5 hM5
  refine xg_aload_n dX7_copyFrom_40 (Eq.refl 41) rfl ?_
  refine xg_aload_n dX7_copyFrom_41 (Eq.refl 42) rfl ?_
  refine xg_getZ (k := 5) xcl7 h1 rfl xq_973 rfl dX7_copyFrom_42 (Eq.refl 45) hM5 ?_
  refine xg_putZ (k := 5) xcl7 h0 rfl xq_973 rfl (by decide +kernel) dX7_copyFrom_45 (Eq.refl 48) rfl hM5 (hM5.Z h1 rfl) ?_
  intro M6 hM6
  refine xg_aload_n dX7_copyFrom_48 (Eq.refl 49) rfl ?_
  refine xg_aload_n dX7_copyFrom_49 (Eq.refl 50) rfl ?_
  refine xg_getZ (k := 6) xcl7 h1 rfl xq_974 rfl dX7_copyFrom_50 (Eq.refl 53) hM6 ?_
  refine xg_putZ (k := 6) xcl7 h0 rfl xq_974 rfl (by decide +kernel) dX7_copyFrom_53 (Eq.refl 56) rfl hM6 (hM6.Z h1 rfl) ?_
  intro M7 hM7
  exact xg_vret rfl dX7_copyFrom_56 rfl hM7
abbrev uX4_copyFrom : xU := (RX4, cX4_copyFrom, 2, none, [], "copyFrom")
theorem bX4_copyFrom : xYV yX4_copyFrom cX4_copyFrom 2 none 1 := ⟨xq_977, xq_978, xq_67, xq_979, ⟨by decide +kernel, by decide +kernel, by decide +kernel⟩, by decide⟩
theorem mX4_copyFrom {l : Launch} {G : xG} (hl : l.stackTraces = false) (x0 : Nat) (h0 : xOb 4 x0) (x1 : Nat) (h1 : xOb 4 x1) (M : xM) (hM : xcan M) : Cm l G yX4_copyFrom cX4_copyFrom 2 none 2 3 0 0 [.ref x0, .ref x1] M (fX4_copyFrom x0 x1 M) := by
  refine xcm_of (u := uX4_copyFrom) (ls := [some (.ref x0), some (.ref x1)]) 0 hl rfl (by decide +kernel) (Nat.le_of_ble_eq_true rfl) rfl ?_
  unfold fX4_copyFrom
  refine xg_aload_n dX4_copyFrom_0 (Eq.refl 1) rfl ?_
  refine xg_aload_n dX4_copyFrom_1 (Eq.refl 2) rfl ?_
  refine xg_getI (k := 0) xcl4 h1 rfl xq_980 rfl dX4_copyFrom_2 (Eq.refl 5) ?_
  refine xg_putI (k := 0) xcl4 h0 rfl xq_980 rfl (by decide +kernel) dX4_copyFrom_5 (Eq.refl 8) rfl hM (hM.I h1 rfl) ?_
  intro M1 hM1
  refine xg_aload_n dX4_copyFrom_8 (Eq.refl 9) rfl ?_
  refine xg_aload_n dX4_copyFrom_9 (Eq.refl 10) rfl ?_
  refine xg_getI (k := 1) xcl4 h1 rfl xq_981 rfl dX4_copyFrom_10 (Eq.refl 13) ?_
  refine xg_putI (k := 1) xcl4 h0 rfl xq_981 rfl (by decide +kernel) dX4_copyFrom_13 (Eq.refl 16) rfl hM1 (hM1.I h1 rfl) ?_
  intro M2 hM2
  refine xg_aload_n dX4_copyFrom_16 (Eq.refl 17) rfl ?_
  refine xg_aload_n dX4_copyFrom_17 (Eq.refl 18) rfl ?_
  refine xg_getI (k := 2) xcl4 h1 rfl xq_781 rfl dX4_copyFrom_18 (Eq.refl 21) ?_
  refine xg_putI (k := 2) xcl4 h0 rfl xq_781 rfl (by decide +kernel) dX4_copyFrom_21 (Eq.refl 24) rfl hM2 (hM2.I h1 rfl) ?_
  intro M3 hM3
  refine xg_aload_n dX4_copyFrom_24 (Eq.refl 25) rfl ?_
  refine xg_aload_n dX4_copyFrom_25 (Eq.refl 26) rfl ?_
  refine xg_getI (k := 3) xcl4 h1 rfl xq_780 rfl dX4_copyFrom_26 (Eq.refl 29) ?_
  refine xg_putI (k := 3) xcl4 h0 rfl xq_780 rfl (by decide +kernel) dX4_copyFrom_29 (Eq.refl 32) rfl hM3 (hM3.I h1 rfl) ?_
  intro M4 hM4
  refine xg_aload_n dX4_copyFrom_32 (Eq.refl 33) rfl ?_
  refine xg_aload_n dX4_copyFrom_33 (Eq.refl 34) rfl ?_
  refine xg_getI (k := 4) xcl4 h1 rfl xq_982 rfl dX4_copyFrom_34 (Eq.refl 37) ?_
  refine xg_putI (k := 4) xcl4 h0 rfl xq_982 rfl (by decide +kernel) dX4_copyFrom_37 (Eq.refl 40) rfl hM4 (hM4.I h1 rfl) ?_
  intro M5 hM5
  refine xg_aload_n dX4_copyFrom_40 (Eq.refl 41) rfl ?_
  refine xg_aload_n dX4_copyFrom_41 (Eq.refl 42) rfl ?_
  refine xg_getI (k := 5) xcl4 h1 rfl xq_983 rfl dX4_copyFrom_42 (Eq.refl 45) ?_
  refine xg_putI (k := 5) xcl4 h0 rfl xq_983 rfl (by decide +kernel) dX4_copyFrom_45 (Eq.refl 48) rfl hM5 (hM5.I h1 rfl) ?_
  intro M6 hM6
  refine xg_aload_n dX4_copyFrom_48 (Eq.refl 49) rfl ?_
  refine xg_aload_n dX4_copyFrom_49 (Eq.refl 50) rfl ?_
  refine xg_getI (k := 6) xcl4 h1 rfl xq_984 rfl dX4_copyFrom_50 (Eq.refl 53) ?_
  refine xg_putI (k := 6) xcl4 h0 rfl xq_984 rfl (by decide +kernel) dX4_copyFrom_53 (Eq.refl 56) rfl hM6 (hM6.I h1 rfl) ?_
  intro M7 hM7
  refine xg_aload_n dX4_copyFrom_56 (Eq.refl 57) rfl ?_
  refine xg_aload_n dX4_copyFrom_57 (Eq.refl 58) rfl ?_
  refine xg_getZ (k := 7) xcl4 h1 rfl xq_985 rfl dX4_copyFrom_58 (Eq.refl 61) hM7 ?_
  refine xg_putZ (k := 7) xcl4 h0 rfl xq_985 rfl (by decide +kernel) dX4_copyFrom_61 (Eq.refl 64) rfl hM7 (hM7.Z h1 rfl) ?_
  intro M8 hM8
  refine xg_aload_n dX4_copyFrom_64 (Eq.refl 65) rfl ?_
  refine xg_aload_n dX4_copyFrom_65 (Eq.refl 66) rfl ?_
  refine xg_getZ (k := 8) xcl4 h1 rfl xq_986 rfl dX4_copyFrom_66 (Eq.refl 69) hM8 ?_
  refine xg_putZ (k := 8) xcl4 h0 rfl xq_986 rfl (by decide +kernel) dX4_copyFrom_69 (Eq.refl 72) rfl hM8 (hM8.Z h1 rfl) ?_
  intro M9 hM9
  refine xg_aload_n dX4_copyFrom_72 (Eq.refl 73) rfl ?_
  refine xg_aload_n dX4_copyFrom_73 (Eq.refl 74) rfl ?_
  refine xg_getI (k := 9) xcl4 h1 rfl xq_987 rfl dX4_copyFrom_74 (Eq.refl 77) ?_
  refine xg_putI (k := 9) xcl4 h0 rfl xq_987 rfl (by decide +kernel) dX4_copyFrom_77 (Eq.refl 80) rfl hM9 (hM9.I h1 rfl) ?_
  intro M10 hM10
  refine xg_aload_n dX4_copyFrom_80 (Eq.refl 81) rfl ?_
  refine xg_getR (k := 10) xcl4 h1 rfl xq_99 rfl (xt_4_10 h1).1 dX4_copyFrom_81 (Eq.refl 84) ?_
  refine xg_aload_n dX4_copyFrom_84 (Eq.refl 85) rfl ?_
  refine xg_getR (k := 10) xcl4 h0 rfl xq_99 rfl (xt_4_10 h0).1 dX4_copyFrom_85 (Eq.refl 88) ?_
  refine xg_callSN_N (kc := 0) (ks := 0) (st := []) (mX11_copyAll hl (xr x1 10) (xAn.l (xt_4_10 h1).2) (xr x0 10) (xAn.l (xt_4_10 h0).2) M10 hM10) bX11_copyAll (fun U h => h.2.2.2.2.2.2.2.2.2.2.2.2.2.2.2.2) rfl (by decide) rfl (by decide) dX4_copyFrom_88 (Eq.refl 91) rfl (by decide) (by decide) ?_
  intro z11 M12 hz11 hM12
  refine xg_aload_n dX4_copyFrom_91 (Eq.refl 92) rfl ?_
  refine xg_getR (k := 11) xcl4 h1 rfl xq_100 rfl (xt_4_11 h1).1 dX4_copyFrom_92 (Eq.refl 95) ?_
  refine xg_aload_n dX4_copyFrom_95 (Eq.refl 96) rfl ?_
  refine xg_getR (k := 11) xcl4 h0 rfl xq_100 rfl (xt_4_11 h0).1 dX4_copyFrom_96 (Eq.refl 99) ?_
  refine xg_callSN_N (kc := 0) (ks := 0) (st := []) (mX11_copyAll hl (xr x1 11) (xAn.l (xt_4_11 h1).2) (xr x0 11) (xAn.l (xt_4_11 h0).2) M12 hM12) bX11_copyAll (fun U h => h.2.2.2.2.2.2.2.2.2.2.2.2.2.2.2.2) rfl (by decide) rfl (by decide) dX4_copyFrom_99 (Eq.refl 102) rfl (by decide) (by decide) ?_
  intro z13 M14 hz13 hM14
  refine xg_aload_n dX4_copyFrom_102 (Eq.refl 103) rfl ?_
  refine xg_getR (k := 12) xcl4 h1 rfl xq_101 rfl (xt_4_12 h1).1 dX4_copyFrom_103 (Eq.refl 106) ?_
  refine xg_aload_n dX4_copyFrom_106 (Eq.refl 107) rfl ?_
  refine xg_getR (k := 12) xcl4 h0 rfl xq_101 rfl (xt_4_12 h0).1 dX4_copyFrom_107 (Eq.refl 110) ?_
  refine xg_callSN_N (kc := 0) (ks := 0) (st := []) (mX11_copyAll hl (xr x1 12) (xAn.l (xt_4_12 h1).2) (xr x0 12) (xAn.l (xt_4_12 h0).2) M14 hM14) bX11_copyAll (fun U h => h.2.2.2.2.2.2.2.2.2.2.2.2.2.2.2.2) rfl (by decide) rfl (by decide) dX4_copyFrom_110 (Eq.refl 113) rfl (by decide) (by decide) ?_
  intro z15 M16 hz15 hM16
  exact xg_vret rfl dX4_copyFrom_113 rfl hM16
abbrev uX1_copyCounts : xU := (RX1, cX1_copyCounts, 2, none, [], "copyCounts")
theorem bX1_copyCounts : xYV yX1_copyCounts cX1_copyCounts 2 none 1 := ⟨xq_989, xq_990, xq_17, xq_991, ⟨by decide +kernel, by decide +kernel, by decide +kernel⟩, by decide⟩
theorem mX1_copyCounts {l : Launch} {G : xG} (hl : l.stackTraces = false) (x0 : Nat) (h0 : xOb 1 x0) (x1 : Nat) (h1 : xOb 1 x1) (M : xM) (hM : xcan M) : Cm l G yX1_copyCounts cX1_copyCounts 2 none 1 3 0 0 [.ref x0, .ref x1] M (fX1_copyCounts x0 x1 M) := by
  refine xcm_of (u := uX1_copyCounts) (ls := [some (.ref x0), some (.ref x1)]) 0 hl rfl (by decide +kernel) (Nat.le_of_ble_eq_true rfl) rfl ?_
  unfold fX1_copyCounts
  refine xg_aload_n dX1_copyCounts_0 (Eq.refl 1) rfl ?_
  refine xg_aload_n dX1_copyCounts_1 (Eq.refl 2) rfl ?_
  refine xg_getI (k := 9) xcl1 h1 rfl xq_992 rfl dX1_copyCounts_2 (Eq.refl 5) ?_
  refine xg_putI (k := 9) xcl1 h0 rfl xq_992 rfl (by decide +kernel) dX1_copyCounts_5 (Eq.refl 8) rfl hM (hM.I h1 rfl) ?_
  intro M1 hM1
  refine xg_aload_n dX1_copyCounts_8 (Eq.refl 9) rfl ?_
  refine xg_aload_n dX1_copyCounts_9 (Eq.refl 10) rfl ?_
  refine xg_getI (k := 10) xcl1 h1 rfl xq_388 rfl dX1_copyCounts_10 (Eq.refl 13) ?_
  refine xg_putI (k := 10) xcl1 h0 rfl xq_388 rfl (by decide +kernel) dX1_copyCounts_13 (Eq.refl 16) rfl hM1 (hM1.I h1 rfl) ?_
  intro M2 hM2
  refine xg_aload_n dX1_copyCounts_16 (Eq.refl 17) rfl ?_
  refine xg_aload_n dX1_copyCounts_17 (Eq.refl 18) rfl ?_
  refine xg_getI (k := 11) xcl1 h1 rfl xq_451 rfl dX1_copyCounts_18 (Eq.refl 21) ?_
  refine xg_putI (k := 11) xcl1 h0 rfl xq_451 rfl (by decide +kernel) dX1_copyCounts_21 (Eq.refl 24) rfl hM2 (hM2.I h1 rfl) ?_
  intro M3 hM3
  refine xg_aload_n dX1_copyCounts_24 (Eq.refl 25) rfl ?_
  refine xg_aload_n dX1_copyCounts_25 (Eq.refl 26) rfl ?_
  refine xg_getI (k := 12) xcl1 h1 rfl xq_472 rfl dX1_copyCounts_26 (Eq.refl 29) ?_
  refine xg_putI (k := 12) xcl1 h0 rfl xq_472 rfl (by decide +kernel) dX1_copyCounts_29 (Eq.refl 32) rfl hM3 (hM3.I h1 rfl) ?_
  intro M4 hM4
  refine xg_aload_n dX1_copyCounts_32 (Eq.refl 33) rfl ?_
  refine xg_aload_n dX1_copyCounts_33 (Eq.refl 34) rfl ?_
  refine xg_getI (k := 13) xcl1 h1 rfl xq_547 rfl dX1_copyCounts_34 (Eq.refl 37) ?_
  refine xg_putI (k := 13) xcl1 h0 rfl xq_547 rfl (by decide +kernel) dX1_copyCounts_37 (Eq.refl 40) rfl hM4 (hM4.I h1 rfl) ?_
  intro M5 hM5
  refine xg_aload_n dX1_copyCounts_40 (Eq.refl 41) rfl ?_
  refine xg_aload_n dX1_copyCounts_41 (Eq.refl 42) rfl ?_
  refine xg_getI (k := 14) xcl1 h1 rfl xq_993 rfl dX1_copyCounts_42 (Eq.refl 45) ?_
  refine xg_putI (k := 14) xcl1 h0 rfl xq_993 rfl (by decide +kernel) dX1_copyCounts_45 (Eq.refl 48) rfl hM5 (hM5.I h1 rfl) ?_
  intro M6 hM6
  refine xg_aload_n dX1_copyCounts_48 (Eq.refl 49) rfl ?_
  refine xg_aload_n dX1_copyCounts_49 (Eq.refl 50) rfl ?_
  refine xg_getI (k := 15) xcl1 h1 rfl xq_994 rfl dX1_copyCounts_50 (Eq.refl 53) ?_
  refine xg_putI (k := 15) xcl1 h0 rfl xq_994 rfl (by decide +kernel) dX1_copyCounts_53 (Eq.refl 56) rfl hM6 (hM6.I h1 rfl) ?_
  intro M7 hM7
  refine xg_aload_n dX1_copyCounts_56 (Eq.refl 57) rfl ?_
  refine xg_aload_n dX1_copyCounts_57 (Eq.refl 58) rfl ?_
  refine xg_getI (k := 16) xcl1 h1 rfl xq_315 rfl dX1_copyCounts_58 (Eq.refl 61) ?_
  refine xg_putI (k := 16) xcl1 h0 rfl xq_315 rfl (by decide +kernel) dX1_copyCounts_61 (Eq.refl 64) rfl hM7 (hM7.I h1 rfl) ?_
  intro M8 hM8
  refine xg_aload_n dX1_copyCounts_64 (Eq.refl 65) rfl ?_
  refine xg_aload_n dX1_copyCounts_65 (Eq.refl 66) rfl ?_
  refine xg_getI (k := 17) xcl1 h1 rfl xq_656 rfl dX1_copyCounts_66 (Eq.refl 69) ?_
  refine xg_putI (k := 17) xcl1 h0 rfl xq_656 rfl (by decide +kernel) dX1_copyCounts_69 (Eq.refl 72) rfl hM8 (hM8.I h1 rfl) ?_
  intro M9 hM9
  exact xg_vret rfl dX1_copyCounts_72 rfl hM9
abbrev uX1_copyFrom : xU := (RX1, cX1_copyFrom, 3, none, [], "copyFrom")
theorem bX1_copyFrom : xYV yX1_copyFrom cX1_copyFrom 3 none 1 := ⟨xq_912, xq_913, xq_17, xq_914, ⟨by decide +kernel, by decide +kernel, by decide +kernel⟩, by decide⟩
theorem gX1_copyFrom_163 {l : Launch} {G : xG} (hl : l.stackTraces = false) (x0 : Nat) (h0 : xOb 1 x0) (x1 : Nat) (h1 : xOb 1 x1) : ∀ (n : Nat) (x2 : Int) (_ : R32 x2) (M : xM) (_ : xcan M), Gv l G uX1_copyFrom 3 3 0 0 163 [some (.ref x0), some (.ref x1), some (iv x2)] [] M (fX1_copyFrom_163 x0 x1 n x2 M) := by
  intro n; induction n with
  | zero => intro x2 h2 M hM; exact xg_none
  | succ n ih =>
    intro x2 h2 M hM
    rw [fX1_copyFrom_163]
    refine xg_iload_n dX1_copyFrom_163 (Eq.refl 164) rfl ?_
    refine xg_bipush dX1_copyFrom_164 (Eq.refl 166) (by decide +kernel) ?_
    refine xg_icmp_gt (tgt := 188) dX1_copyFrom_166 (Eq.refl 169) (by decide) h2 (by decide) ?_ ?_
    · refine xg_aload_n dX1_copyFrom_188 (Eq.refl 189) rfl ?_
      refine xg_getR (k := 8) xcl1 h1 rfl xq_52 rfl (xt_1_8 h1).1 dX1_copyFrom_189 (Eq.refl 192) ?_
      refine xg_aload_n dX1_copyFrom_192 (Eq.refl 193) rfl ?_
      refine xg_getR (k := 8) xcl1 h0 rfl xq_52 rfl (xt_1_8 h0).1 dX1_copyFrom_193 (Eq.refl 196) ?_
      refine xg_callSN_N (kc := 0) (ks := 0) (st := []) (mX11_copyAll hl (xr x1 8) (xAn.l (xt_1_8 h1).2) (xr x0 8) (xAn.l (xt_1_8 h0).2) M hM) bX11_copyAll (fun U h => h.2.2.2.2.2.2.2.2.1) rfl (by decide) rfl (by decide) dX1_copyFrom_196 (Eq.refl 199) rfl (by decide) (by decide) ?_
      intro z1 M2 hz1 hM2
      refine xg_aload_n dX1_copyFrom_199 (Eq.refl 200) rfl ?_
      refine xg_aload_n dX1_copyFrom_200 (Eq.refl 201) rfl ?_
      refine xg_callV_N (kc := 0) (ks := 0) (st := []) (mX1_copyCounts hl x0 h0 x1 h1 M2 hM2) bX1_copyCounts xcl1 h0 rfl xq_988 rfl (by decide) rfl (by decide) dX1_copyFrom_201 (Eq.refl 204) rfl (by decide) (by decide) ?_
      intro z3 M4 hz3 hM4
      exact xg_vret rfl dX1_copyFrom_204 rfl hM4
    · refine xg_aload_n dX1_copyFrom_169 (Eq.refl 170) rfl ?_
      refine xg_iload_n dX1_copyFrom_170 (Eq.refl 171) rfl ?_
      refine xg_callV_R (cr := 4) (kc := 0) (ks := 0) (st := []) (mX1_event hl x0 h0 x2 h2 M hM) bX1_event xcl1 h0 rfl xq_975 rfl (by decide) rfl (by decide) dX1_copyFrom_171 (Eq.refl 174) rfl (by decide) (by decide) ?_
      intro z5 M6 hz5 hM6
      refine xg_aload_n dX1_copyFrom_174 (Eq.refl 175) rfl ?_
      refine xg_iload_n dX1_copyFrom_175 (Eq.refl 176) rfl ?_
      refine xg_callV_R (cr := 4) (kc := 0) (ks := 0) (st := [.ref z5.toNat]) (mX1_event hl x1 h1 x2 h2 M6 hM6) bX1_event xcl1 h1 rfl xq_975 rfl (by decide) rfl (Nat.le_of_ble_eq_true rfl) dX1_copyFrom_176 (Eq.refl 179) rfl (by decide) (by decide) ?_
      intro z7 M8 hz7 hM8
      refine xg_callV_N (kc := 0) (ks := 0) (st := []) (mX4_copyFrom hl z5.toNat hz5 z7.toNat hz7 M8 hM8) bX4_copyFrom xcl4 hz5 rfl xq_976 rfl (by decide) rfl (by decide) dX1_copyFrom_179 (Eq.refl 182) rfl (by decide) (by decide) ?_
      intro z9 M10 hz9 hM10
      refine xg_iinc (ls2 := [some (.ref x0), some (.ref x1), some (iv (w32 (x2 + 1)))]) dX1_copyFrom_182 (Eq.refl 185) rfl (by decide) rfl ?_
      refine xg_goto (tgt := 163) dX1_copyFrom_185 (by decide) ?_
      exact xg_jump (ih (w32 (x2 + 1)) (w32_r _) M10 hM10) (xsb_s (xsb_s (xsb_s xsb_0))) (by decide) (by decide)
theorem gX1_copyFrom_136 {l : Launch} {G : xG} (hl : l.stackTraces = false) (x0 : Nat) (h0 : xOb 1 x0) (x1 : Nat) (h1 : xOb 1 x1) : ∀ (n : Nat) (x2 : Int) (_ : R32 x2) (M : xM) (_ : xcan M), Gv l G uX1_copyFrom 3 3 0 0 136 [some (.ref x0), some (.ref x1), some (iv x2)] [] M (fX1_copyFrom_136 x0 x1 n x2 M) := by
  intro n; induction n with
  | zero => intro x2 h2 M hM; exact xg_none
  | succ n ih =>
    intro x2 h2 M hM
    rw [fX1_copyFrom_136]
    refine xg_iload_n dX1_copyFrom_136 (Eq.refl 137) rfl ?_
    refine xg_bipush dX1_copyFrom_137 (Eq.refl 139) (by decide +kernel) ?_
    refine xg_icmp_gt (tgt := 161) dX1_copyFrom_139 (Eq.refl 142) (by decide) h2 (by decide) ?_ ?_
    · refine xg_iconst dX1_copyFrom_161 (Eq.refl 162) ?_
      refine xg_istore_n (ls2 := [some (.ref x0), some (.ref x1), some (iv 0)]) dX1_copyFrom_162 (Eq.refl 163) (by decide) rfl ?_
      exact xg_jump (gX1_copyFrom_163 hl x0 h0 x1 h1 xN 0 (by decide) M hM) (xsb_s (xsb_s (xsb_s xsb_0))) (by decide) (by decide)
    · refine xg_aload_n dX1_copyFrom_142 (Eq.refl 143) rfl ?_
      refine xg_iload_n dX1_copyFrom_143 (Eq.refl 144) rfl ?_
      refine xg_callV_R (cr := 7) (kc := 0) (ks := 0) (st := []) (mX1_loanAt hl x0 h0 x2 h2 M hM) bX1_loanAt xcl1 h0 rfl xq_963 rfl (by decide) rfl (by decide) dX1_copyFrom_144 (Eq.refl 147) rfl (by decide) (by decide) ?_
      intro z1 M2 hz1 hM2
      refine xg_aload_n dX1_copyFrom_147 (Eq.refl 148) rfl ?_
      refine xg_iload_n dX1_copyFrom_148 (Eq.refl 149) rfl ?_
      refine xg_callV_R (cr := 7) (kc := 0) (ks := 0) (st := [.ref z1.toNat]) (mX1_loanAt hl x1 h1 x2 h2 M2 hM2) bX1_loanAt xcl1 h1 rfl xq_963 rfl (by decide) rfl (Nat.le_of_ble_eq_true rfl) dX1_copyFrom_149 (Eq.refl 152) rfl (by decide) (by decide) ?_
      intro z3 M4 hz3 hM4
      refine xg_callV_N (kc := 0) (ks := 0) (st := []) (mX7_copyFrom hl z1.toNat hz1 z3.toNat hz3 M4 hM4) bX7_copyFrom xcl7 hz1 rfl xq_964 rfl (by decide) rfl (by decide) dX1_copyFrom_152 (Eq.refl 155) rfl (by decide) (by decide) ?_
      intro z5 M6 hz5 hM6
      refine xg_iinc (ls2 := [some (.ref x0), some (.ref x1), some (iv (w32 (x2 + 1)))]) dX1_copyFrom_155 (Eq.refl 158) rfl (by decide) rfl ?_
      refine xg_goto (tgt := 136) dX1_copyFrom_158 (by decide) ?_
      exact xg_jump (ih (w32 (x2 + 1)) (w32_r _) M6 hM6) (xsb_s (xsb_s (xsb_s xsb_0))) (by decide) (by decide)
theorem gX1_copyFrom_109 {l : Launch} {G : xG} (hl : l.stackTraces = false) (x0 : Nat) (h0 : xOb 1 x0) (x1 : Nat) (h1 : xOb 1 x1) : ∀ (n : Nat) (x2 : Int) (_ : R32 x2) (M : xM) (_ : xcan M), Gv l G uX1_copyFrom 3 3 0 0 109 [some (.ref x0), some (.ref x1), some (iv x2)] [] M (fX1_copyFrom_109 x0 x1 n x2 M) := by
  intro n; induction n with
  | zero => intro x2 h2 M hM; exact xg_none
  | succ n ih =>
    intro x2 h2 M hM
    rw [fX1_copyFrom_109]
    refine xg_iload_n dX1_copyFrom_109 (Eq.refl 110) rfl ?_
    refine xg_bipush dX1_copyFrom_110 (Eq.refl 112) (by decide +kernel) ?_
    refine xg_icmp_gt (tgt := 134) dX1_copyFrom_112 (Eq.refl 115) (by decide) h2 (by decide) ?_ ?_
    · refine xg_iconst dX1_copyFrom_134 (Eq.refl 135) ?_
      refine xg_istore_n (ls2 := [some (.ref x0), some (.ref x1), some (iv 0)]) dX1_copyFrom_135 (Eq.refl 136) (by decide) rfl ?_
      exact xg_jump (gX1_copyFrom_136 hl x0 h0 x1 h1 xN 0 (by decide) M hM) (xsb_s (xsb_s (xsb_s xsb_0))) (by decide) (by decide)
    · refine xg_aload_n dX1_copyFrom_115 (Eq.refl 116) rfl ?_
      refine xg_iload_n dX1_copyFrom_116 (Eq.refl 117) rfl ?_
      refine xg_callV_R (cr := 6) (kc := 0) (ks := 0) (st := []) (mX1_linkAt hl x0 h0 x2 h2 M hM) bX1_linkAt xcl1 h0 rfl xq_549 rfl (by decide) rfl (by decide) dX1_copyFrom_117 (Eq.refl 120) rfl (by decide) (by decide) ?_
      intro z1 M2 hz1 hM2
      refine xg_aload_n dX1_copyFrom_120 (Eq.refl 121) rfl ?_
      refine xg_iload_n dX1_copyFrom_121 (Eq.refl 122) rfl ?_
      refine xg_callV_R (cr := 6) (kc := 0) (ks := 0) (st := [.ref z1.toNat]) (mX1_linkAt hl x1 h1 x2 h2 M2 hM2) bX1_linkAt xcl1 h1 rfl xq_549 rfl (by decide) rfl (Nat.le_of_ble_eq_true rfl) dX1_copyFrom_122 (Eq.refl 125) rfl (by decide) (by decide) ?_
      intro z3 M4 hz3 hM4
      refine xg_callV_N (kc := 0) (ks := 0) (st := []) (mX6_copyFrom hl z1.toNat hz1 z3.toNat hz3 M4 hM4) bX6_copyFrom xcl6 hz1 rfl xq_556 rfl (by decide) rfl (by decide) dX1_copyFrom_125 (Eq.refl 128) rfl (by decide) (by decide) ?_
      intro z5 M6 hz5 hM6
      refine xg_iinc (ls2 := [some (.ref x0), some (.ref x1), some (iv (w32 (x2 + 1)))]) dX1_copyFrom_128 (Eq.refl 131) rfl (by decide) rfl ?_
      refine xg_goto (tgt := 109) dX1_copyFrom_131 (by decide) ?_
      exact xg_jump (ih (w32 (x2 + 1)) (w32_r _) M6 hM6) (xsb_s (xsb_s (xsb_s xsb_0))) (by decide) (by decide)
theorem gX1_copyFrom_82 {l : Launch} {G : xG} (hl : l.stackTraces = false) (x0 : Nat) (h0 : xOb 1 x0) (x1 : Nat) (h1 : xOb 1 x1) : ∀ (n : Nat) (x2 : Int) (_ : R32 x2) (M : xM) (_ : xcan M), Gv l G uX1_copyFrom 3 3 0 0 82 [some (.ref x0), some (.ref x1), some (iv x2)] [] M (fX1_copyFrom_82 x0 x1 n x2 M) := by
  intro n; induction n with
  | zero => intro x2 h2 M hM; exact xg_none
  | succ n ih =>
    intro x2 h2 M hM
    rw [fX1_copyFrom_82]
    refine xg_iload_n dX1_copyFrom_82 (Eq.refl 83) rfl ?_
    refine xg_bipush dX1_copyFrom_83 (Eq.refl 85) (by decide +kernel) ?_
    refine xg_icmp_gt (tgt := 107) dX1_copyFrom_85 (Eq.refl 88) (by decide) h2 (by decide) ?_ ?_
    · refine xg_iconst dX1_copyFrom_107 (Eq.refl 108) ?_
      refine xg_istore_n (ls2 := [some (.ref x0), some (.ref x1), some (iv 0)]) dX1_copyFrom_108 (Eq.refl 109) (by decide) rfl ?_
      exact xg_jump (gX1_copyFrom_109 hl x0 h0 x1 h1 xN 0 (by decide) M hM) (xsb_s (xsb_s (xsb_s xsb_0))) (by decide) (by decide)
    · refine xg_aload_n dX1_copyFrom_88 (Eq.refl 89) rfl ?_
      refine xg_iload_n dX1_copyFrom_89 (Eq.refl 90) rfl ?_
      refine xg_callV_R (cr := 10) (kc := 0) (ks := 0) (st := []) (mX1_trade hl x0 h0 x2 h2 M hM) bX1_trade xcl1 h0 rfl xq_489 rfl (by decide) rfl (by decide) dX1_copyFrom_90 (Eq.refl 93) rfl (by decide) (by decide) ?_
      intro z1 M2 hz1 hM2
      refine xg_aload_n dX1_copyFrom_93 (Eq.refl 94) rfl ?_
      refine xg_iload_n dX1_copyFrom_94 (Eq.refl 95) rfl ?_
      refine xg_callV_R (cr := 10) (kc := 0) (ks := 0) (st := [.ref z1.toNat]) (mX1_trade hl x1 h1 x2 h2 M2 hM2) bX1_trade xcl1 h1 rfl xq_489 rfl (by decide) rfl (Nat.le_of_ble_eq_true rfl) dX1_copyFrom_95 (Eq.refl 98) rfl (by decide) (by decide) ?_
      intro z3 M4 hz3 hM4
      refine xg_callV_N (kc := 0) (ks := 0) (st := []) (mX10_copyFrom hl z1.toNat hz1 z3.toNat hz3 M4 hM4) bX10_copyFrom xcl10 hz1 rfl xq_948 rfl (by decide) rfl (by decide) dX1_copyFrom_98 (Eq.refl 101) rfl (by decide) (by decide) ?_
      intro z5 M6 hz5 hM6
      refine xg_iinc (ls2 := [some (.ref x0), some (.ref x1), some (iv (w32 (x2 + 1)))]) dX1_copyFrom_101 (Eq.refl 104) rfl (by decide) rfl ?_
      refine xg_goto (tgt := 82) dX1_copyFrom_104 (by decide) ?_
      exact xg_jump (ih (w32 (x2 + 1)) (w32_r _) M6 hM6) (xsb_s (xsb_s (xsb_s xsb_0))) (by decide) (by decide)
theorem gX1_copyFrom_55 {l : Launch} {G : xG} (hl : l.stackTraces = false) (x0 : Nat) (h0 : xOb 1 x0) (x1 : Nat) (h1 : xOb 1 x1) : ∀ (n : Nat) (x2 : Int) (_ : R32 x2) (M : xM) (_ : xcan M), Gv l G uX1_copyFrom 3 3 0 0 55 [some (.ref x0), some (.ref x1), some (iv x2)] [] M (fX1_copyFrom_55 x0 x1 n x2 M) := by
  intro n; induction n with
  | zero => intro x2 h2 M hM; exact xg_none
  | succ n ih =>
    intro x2 h2 M hM
    rw [fX1_copyFrom_55]
    refine xg_iload_n dX1_copyFrom_55 (Eq.refl 56) rfl ?_
    refine xg_bipush dX1_copyFrom_56 (Eq.refl 58) (by decide +kernel) ?_
    refine xg_icmp_gt (tgt := 80) dX1_copyFrom_58 (Eq.refl 61) (by decide) h2 (by decide) ?_ ?_
    · refine xg_iconst dX1_copyFrom_80 (Eq.refl 81) ?_
      refine xg_istore_n (ls2 := [some (.ref x0), some (.ref x1), some (iv 0)]) dX1_copyFrom_81 (Eq.refl 82) (by decide) rfl ?_
      exact xg_jump (gX1_copyFrom_82 hl x0 h0 x1 h1 xN 0 (by decide) M hM) (xsb_s (xsb_s (xsb_s xsb_0))) (by decide) (by decide)
    · refine xg_aload_n dX1_copyFrom_61 (Eq.refl 62) rfl ?_
      refine xg_iload_n dX1_copyFrom_62 (Eq.refl 63) rfl ?_
      refine xg_callV_R (cr := 5) (kc := 0) (ks := 0) (st := []) (mX1_instruction hl x0 h0 x2 h2 M hM) bX1_instruction xcl1 h0 rfl xq_323 rfl (by decide) rfl (by decide) dX1_copyFrom_63 (Eq.refl 66) rfl (by decide) (by decide) ?_
      intro z1 M2 hz1 hM2
      refine xg_aload_n dX1_copyFrom_66 (Eq.refl 67) rfl ?_
      refine xg_iload_n dX1_copyFrom_67 (Eq.refl 68) rfl ?_
      refine xg_callV_R (cr := 5) (kc := 0) (ks := 0) (st := [.ref z1.toNat]) (mX1_instruction hl x1 h1 x2 h2 M2 hM2) bX1_instruction xcl1 h1 rfl xq_323 rfl (by decide) rfl (Nat.le_of_ble_eq_true rfl) dX1_copyFrom_68 (Eq.refl 71) rfl (by decide) (by decide) ?_
      intro z3 M4 hz3 hM4
      refine xg_callV_N (kc := 0) (ks := 0) (st := []) (mX5_copyFrom hl z1.toNat hz1 z3.toNat hz3 M4 hM4) bX5_copyFrom xcl5 hz1 rfl xq_940 rfl (by decide) rfl (by decide) dX1_copyFrom_71 (Eq.refl 74) rfl (by decide) (by decide) ?_
      intro z5 M6 hz5 hM6
      refine xg_iinc (ls2 := [some (.ref x0), some (.ref x1), some (iv (w32 (x2 + 1)))]) dX1_copyFrom_74 (Eq.refl 77) rfl (by decide) rfl ?_
      refine xg_goto (tgt := 55) dX1_copyFrom_77 (by decide) ?_
      exact xg_jump (ih (w32 (x2 + 1)) (w32_r _) M6 hM6) (xsb_s (xsb_s (xsb_s xsb_0))) (by decide) (by decide)
theorem gX1_copyFrom_29 {l : Launch} {G : xG} (hl : l.stackTraces = false) (x0 : Nat) (h0 : xOb 1 x0) (x1 : Nat) (h1 : xOb 1 x1) : ∀ (n : Nat) (x2 : Int) (_ : R32 x2) (M : xM) (_ : xcan M), Gv l G uX1_copyFrom 3 3 0 0 29 [some (.ref x0), some (.ref x1), some (iv x2)] [] M (fX1_copyFrom_29 x0 x1 n x2 M) := by
  intro n; induction n with
  | zero => intro x2 h2 M hM; exact xg_none
  | succ n ih =>
    intro x2 h2 M hM
    rw [fX1_copyFrom_29]
    refine xg_iload_n dX1_copyFrom_29 (Eq.refl 30) rfl ?_
    refine xg_iconst dX1_copyFrom_30 (Eq.refl 31) ?_
    refine xg_icmp_gt (tgt := 53) dX1_copyFrom_31 (Eq.refl 34) (by decide) h2 (by decide) ?_ ?_
    · refine xg_iconst dX1_copyFrom_53 (Eq.refl 54) ?_
      refine xg_istore_n (ls2 := [some (.ref x0), some (.ref x1), some (iv 0)]) dX1_copyFrom_54 (Eq.refl 55) (by decide) rfl ?_
      exact xg_jump (gX1_copyFrom_55 hl x0 h0 x1 h1 xN 0 (by decide) M hM) (xsb_s (xsb_s (xsb_s xsb_0))) (by decide) (by decide)
    · refine xg_aload_n dX1_copyFrom_34 (Eq.refl 35) rfl ?_
      refine xg_iload_n dX1_copyFrom_35 (Eq.refl 36) rfl ?_
      refine xg_callV_R (cr := 9) (kc := 0) (ks := 0) (st := []) (mX1_security hl x0 h0 x2 h2 M hM) bX1_security xcl1 h0 rfl xq_350 rfl (by decide) rfl (by decide) dX1_copyFrom_36 (Eq.refl 39) rfl (by decide) (by decide) ?_
      intro z1 M2 hz1 hM2
      refine xg_aload_n dX1_copyFrom_39 (Eq.refl 40) rfl ?_
      refine xg_iload_n dX1_copyFrom_40 (Eq.refl 41) rfl ?_
      refine xg_callV_R (cr := 9) (kc := 0) (ks := 0) (st := [.ref z1.toNat]) (mX1_security hl x1 h1 x2 h2 M2 hM2) bX1_security xcl1 h1 rfl xq_350 rfl (by decide) rfl (Nat.le_of_ble_eq_true rfl) dX1_copyFrom_41 (Eq.refl 44) rfl (by decide) (by decide) ?_
      intro z3 M4 hz3 hM4
      refine xg_callV_N (kc := 0) (ks := 0) (st := []) (mX9_copyFrom hl z1.toNat hz1 z3.toNat hz3 M4 hM4) bX9_copyFrom xcl9 hz1 rfl xq_932 rfl (by decide) rfl (by decide) dX1_copyFrom_44 (Eq.refl 47) rfl (by decide) (by decide) ?_
      intro z5 M6 hz5 hM6
      refine xg_iinc (ls2 := [some (.ref x0), some (.ref x1), some (iv (w32 (x2 + 1)))]) dX1_copyFrom_47 (Eq.refl 50) rfl (by decide) rfl ?_
      refine xg_goto (tgt := 29) dX1_copyFrom_50 (by decide) ?_
      exact xg_jump (ih (w32 (x2 + 1)) (w32_r _) M6 hM6) (xsb_s (xsb_s (xsb_s xsb_0))) (by decide) (by decide)
theorem gX1_copyFrom_2 {l : Launch} {G : xG} (hl : l.stackTraces = false) (x0 : Nat) (h0 : xOb 1 x0) (x1 : Nat) (h1 : xOb 1 x1) : ∀ (n : Nat) (x2 : Int) (_ : R32 x2) (M : xM) (_ : xcan M), Gv l G uX1_copyFrom 3 3 0 0 2 [some (.ref x0), some (.ref x1), some (iv x2)] [] M (fX1_copyFrom_2 x0 x1 n x2 M) := by
  intro n; induction n with
  | zero => intro x2 h2 M hM; exact xg_none
  | succ n ih =>
    intro x2 h2 M hM
    rw [fX1_copyFrom_2]
    refine xg_iload_n dX1_copyFrom_2 (Eq.refl 3) rfl ?_
    refine xg_bipush dX1_copyFrom_3 (Eq.refl 5) (by decide +kernel) ?_
    refine xg_icmp_gt (tgt := 27) dX1_copyFrom_5 (Eq.refl 8) (by decide) h2 (by decide) ?_ ?_
    · refine xg_iconst dX1_copyFrom_27 (Eq.refl 28) ?_
      refine xg_istore_n (ls2 := [some (.ref x0), some (.ref x1), some (iv 0)]) dX1_copyFrom_28 (Eq.refl 29) (by decide) rfl ?_
      exact xg_jump (gX1_copyFrom_29 hl x0 h0 x1 h1 xN 0 (by decide) M hM) (xsb_s (xsb_s (xsb_s xsb_0))) (by decide) (by decide)
    · refine xg_aload_n dX1_copyFrom_8 (Eq.refl 9) rfl ?_
      refine xg_iload_n dX1_copyFrom_9 (Eq.refl 10) rfl ?_
      refine xg_callV_R (cr := 0) (kc := 0) (ks := 0) (st := []) (mX1_account hl x0 h0 x2 h2 M hM) bX1_account xcl1 h0 rfl xq_389 rfl (by decide) rfl (by decide) dX1_copyFrom_10 (Eq.refl 13) rfl (by decide) (by decide) ?_
      intro z1 M2 hz1 hM2
      refine xg_aload_n dX1_copyFrom_13 (Eq.refl 14) rfl ?_
      refine xg_iload_n dX1_copyFrom_14 (Eq.refl 15) rfl ?_
      refine xg_callV_R (cr := 0) (kc := 0) (ks := 0) (st := [.ref z1.toNat]) (mX1_account hl x1 h1 x2 h2 M2 hM2) bX1_account xcl1 h1 rfl xq_389 rfl (by decide) rfl (Nat.le_of_ble_eq_true rfl) dX1_copyFrom_15 (Eq.refl 18) rfl (by decide) (by decide) ?_
      intro z3 M4 hz3 hM4
      refine xg_callV_N (kc := 0) (ks := 0) (st := []) (mX0_copyFrom hl z1.toNat hz1 z3.toNat hz3 M4 hM4) bX0_copyFrom xcl0 hz1 rfl xq_915 rfl (by decide) rfl (by decide) dX1_copyFrom_18 (Eq.refl 21) rfl (by decide) (by decide) ?_
      intro z5 M6 hz5 hM6
      refine xg_iinc (ls2 := [some (.ref x0), some (.ref x1), some (iv (w32 (x2 + 1)))]) dX1_copyFrom_21 (Eq.refl 24) rfl (by decide) rfl ?_
      refine xg_goto (tgt := 2) dX1_copyFrom_24 (by decide) ?_
      exact xg_jump (ih (w32 (x2 + 1)) (w32_r _) M6 hM6) (xsb_s (xsb_s (xsb_s xsb_0))) (by decide) (by decide)
theorem mX1_copyFrom {l : Launch} {G : xG} (hl : l.stackTraces = false) (x0 : Nat) (h0 : xOb 1 x0) (x1 : Nat) (h1 : xOb 1 x1) (M : xM) (hM : xcan M) : Cm l G yX1_copyFrom cX1_copyFrom 3 none 3 3 0 0 [.ref x0, .ref x1] M (fX1_copyFrom x0 x1 M) := by
  refine xcm_of (u := uX1_copyFrom) (ls := [some (.ref x0), some (.ref x1), none]) 1 hl rfl (by decide +kernel) (Nat.le_of_ble_eq_true rfl) rfl ?_
  unfold fX1_copyFrom
  refine xg_iconst dX1_copyFrom_0 (Eq.refl 1) ?_
  refine xg_istore_n (ls2 := [some (.ref x0), some (.ref x1), some (iv 0)]) dX1_copyFrom_1 (Eq.refl 2) (by decide) rfl ?_
  exact xg_jump (gX1_copyFrom_2 hl x0 h0 x1 h1 xN 0 (by decide) M hM) (xsb_s (xsb_s (xsb_s xsb_0))) (by decide) (by decide)
abbrev uX1_treatyTax : xU := (RX1, cX1_treatyTax, 4, (some .int), [], "treatyTax")
theorem bX1_treatyTax : xYV yX1_treatyTax cX1_treatyTax 4 (some .int) 2 := ⟨xq_824, xq_825, xq_17, xq_826, ⟨by decide +kernel, by decide +kernel, by decide +kernel⟩, by decide⟩
theorem mX1_treatyTax {l : Launch} {G : xG} (hl : l.stackTraces = false) (x0 : Nat) (h0 : xOb 1 x0) (x1 : Int) (h1 : R32 x1) (x2 : Int) (h2 : R32 x2) (M : xM) (hM : xcan M) : Cm l G yX1_treatyTax cX1_treatyTax 4 (some .int) 1 0 0 0 [.ref x0, iv x1, iv x2] M (fX1_treatyTax x0 x1 x2 M) := by
  refine xcm_of (u := uX1_treatyTax) (ls := [some (.ref x0), some (iv x1), some (iv x2), none]) 1 hl rfl (by decide +kernel) (Nat.le_of_ble_eq_true rfl) rfl ?_
  unfold fX1_treatyTax
  refine xg_iload_n dX1_treatyTax_0 (Eq.refl 1) rfl ?_
  refine xg_iconst dX1_treatyTax_1 (Eq.refl 2) ?_
  refine xg_imul dX1_treatyTax_2 (Eq.refl 3) ?_
  refine xg_iload_n dX1_treatyTax_3 (Eq.refl 4) rfl ?_
  refine xg_iadd dX1_treatyTax_4 (Eq.refl 5) ?_
  refine xg_istore_nL (P := R32) (ls2 := fun y1 => [some (.ref x0), some (iv x1), some (iv x2), some (iv y1)]) dX1_treatyTax_5 (Eq.refl 6) (by decide) (w32_r _) (fun _ => rfl) ?_
  intro y1 hy1
  refine xg_iload_n dX1_treatyTax_6 (Eq.refl 7) rfl ?_
  refine xg_if_lt (tgt := 29) dX1_treatyTax_7 (Eq.refl 10) (by decide) hy1 ?_ ?_
  · refine xg_bipush dX1_treatyTax_29 (Eq.refl 31) (by decide +kernel) ?_
    exact xg_iret rfl dX1_treatyTax_31 rfl hM (by decide)
  · refine xg_iload_n dX1_treatyTax_10 (Eq.refl 11) rfl ?_
    refine xg_aload_n dX1_treatyTax_11 (Eq.refl 12) rfl ?_
    refine xg_getR (k := 8) xcl1 h0 rfl xq_52 rfl (xt_1_8 h0).1 dX1_treatyTax_12 (Eq.refl 15) ?_
    refine xg_alen (z := 9) (xt_1_8 h0).2 (by decide) dX1_treatyTax_15 (Eq.refl 16) rfl ?_
    refine xg_icmp_ge (tgt := 29) dX1_treatyTax_16 (Eq.refl 19) (by decide) hy1 (by decide) ?_ ?_
    · refine xg_bipush dX1_treatyTax_29 (Eq.refl 31) (by decide +kernel) ?_
      exact xg_iret rfl dX1_treatyTax_31 rfl hM (by decide)
    · refine xg_aload_n dX1_treatyTax_19 (Eq.refl 20) rfl ?_
      refine xg_getR (k := 8) xcl1 h0 rfl xq_52 rfl (xt_1_8 h0).1 dX1_treatyTax_20 (Eq.refl 23) ?_
      refine xg_iload_n dX1_treatyTax_23 (Eq.refl 24) rfl ?_
      refine xg_lald (xt_1_8 h0).2 dX1_treatyTax_24 (Eq.refl 25) ?_
      refine xg_l2i dX1_treatyTax_25 (Eq.refl 26) ?_
      refine xg_goto (tgt := 31) dX1_treatyTax_26 (by decide) ?_
      exact xg_iret rfl dX1_treatyTax_31 rfl hM (w32_r _)
abbrev uX1_worthOf : xU := (RX1, cX1_worthOf, 4, (some .long), [], "worthOf")
theorem bX1_worthOf : xYV yX1_worthOf cX1_worthOf 4 (some .long) 2 := ⟨xq_346, xq_347, xq_17, xq_348, ⟨by decide +kernel, by decide +kernel, by decide +kernel⟩, by decide⟩
theorem mX1_worthOf {l : Launch} {G : xG} (hl : l.stackTraces = false) (x0 : Nat) (h0 : xOb 1 x0) (x1 : Int) (h1 : R32 x1) (x2 : Int) (h2 : R64 x2) (M : xM) (hM : xcan M) : Cm l G yX1_worthOf cX1_worthOf 4 (some .long) 2 2 0 0 [.ref x0, iv x1, jv x2] M (fX1_worthOf x0 x1 x2 M) := by
  refine xcm_of (u := uX1_worthOf) (ls := [some (.ref x0), some (iv x1), some (jv x2), none]) 0 hl rfl (by decide +kernel) (Nat.le_of_ble_eq_true rfl) rfl ?_
  unfold fX1_worthOf
  refine xg_lload_n dX1_worthOf_0 (Eq.refl 1) rfl ?_
  refine xg_aload_n dX1_worthOf_1 (Eq.refl 2) rfl ?_
  refine xg_iload_n dX1_worthOf_2 (Eq.refl 3) rfl ?_
  refine xg_callV_R (cr := 9) (kc := 0) (ks := 0) (st := [jv x2]) (mX1_security hl x0 h0 x1 h1 M hM) bX1_security xcl1 h0 rfl xq_350 rfl (by decide) rfl (Nat.le_of_ble_eq_true rfl) dX1_worthOf_3 (Eq.refl 6) rfl (by decide) (by decide) ?_
  intro z1 M2 hz1 hM2
  refine xg_getI (k := 1) xcl9 hz1 rfl xq_349 rfl dX1_worthOf_6 (Eq.refl 9) ?_
  refine xg_i2l dX1_worthOf_9 (Eq.refl 10) (hM2.I hz1 rfl) ?_
  refine xg_lmul dX1_worthOf_10 (Eq.refl 11) ?_
  exact xg_lret rfl dX1_worthOf_11 rfl hM2 (w64_r _)
abbrev uX1_limitOf : xU := (RX1, cX1_limitOf, 5, (some .long), [], "limitOf")
theorem bX1_limitOf : xYV yX1_limitOf cX1_limitOf 5 (some .long) 1 := ⟨xq_398, xq_399, xq_17, xq_400, ⟨by decide +kernel, by decide +kernel, by decide +kernel⟩, by decide⟩
theorem gX1_limitOf_5 {l : Launch} {G : xG} (hl : l.stackTraces = false) (x0 : Nat) (h0 : xOb 1 x0) (x1 : Nat) (h1 : xOb 0 x1) : ∀ (n : Nat) (x2 : Int) (_ : R64 x2) (x4 : Int) (_ : R32 x4) (M : xM) (_ : xcan M), Gv l G uX1_limitOf 2 2 0 0 5 [some (.ref x0), some (.ref x1), some (jv x2), none, some (iv x4)] [] M (fX1_limitOf_5 x0 x1 n x2 x4 M) := by
  intro n; induction n with
  | zero => intro x2 h2 x4 h4 M hM; exact xg_none
  | succ n ih =>
    intro x2 h2 x4 h4 M hM
    rw [fX1_limitOf_5]
    refine xg_iload dX1_limitOf_5 (Eq.refl 7) rfl ?_
    refine xg_aload_n dX1_limitOf_7 (Eq.refl 8) rfl ?_
    refine xg_getI (k := 10) xcl1 h0 rfl xq_388 rfl dX1_limitOf_8 (Eq.refl 11) ?_
    refine xg_icmp_ge (tgt := 40) dX1_limitOf_11 (Eq.refl 14) (by decide) h4 (hM.I h0 rfl) ?_ ?_
    · refine xg_aload_n dX1_limitOf_40 (Eq.refl 41) rfl ?_
      refine xg_getJ (k := 7) xcl0 h1 rfl xq_401 rfl dX1_limitOf_41 (Eq.refl 44) ?_
      refine xg_lload_n dX1_limitOf_44 (Eq.refl 45) rfl ?_
      refine xg_ldc2 (z := 2) xq_402 dX1_limitOf_45 (Eq.refl 48) (by decide +kernel) ?_
      refine xg_ldivk dX1_limitOf_48 (Eq.refl 49) h2 (by decide) ?_
      refine xg_ladd dX1_limitOf_49 (Eq.refl 50) ?_
      exact xg_lret rfl dX1_limitOf_50 rfl hM (w64_r _)
    · refine xg_lload_n dX1_limitOf_14 (Eq.refl 15) rfl ?_
      refine xg_aload_n dX1_limitOf_15 (Eq.refl 16) rfl ?_
      refine xg_iload dX1_limitOf_16 (Eq.refl 18) rfl ?_
      refine xg_callV_J (kc := 0) (ks := 0) (st := [jv x2]) (mX0_freeOf hl x1 h1 x4 h4 M hM) bX0_freeOf xcl0 h1 rfl xq_390 rfl (by decide) rfl (Nat.le_of_ble_eq_true rfl) dX1_limitOf_18 (Eq.refl 21) rfl (by decide) (by decide) ?_
      intro z1 M2 hz1 hM2
      refine xg_aload_n dX1_limitOf_21 (Eq.refl 22) rfl ?_
      refine xg_iload dX1_limitOf_22 (Eq.refl 24) rfl ?_
      refine xg_callV_R (cr := 9) (kc := 0) (ks := 0) (st := [jv z1, jv x2]) (mX1_security hl x0 h0 x4 h4 M2 hM2) bX1_security xcl1 h0 rfl xq_350 rfl (by decide) rfl (Nat.le_of_ble_eq_true rfl) dX1_limitOf_24 (Eq.refl 27) rfl (by decide) (by decide) ?_
      intro z3 M4 hz3 hM4
      refine xg_getI (k := 1) xcl9 hz3 rfl xq_349 rfl dX1_limitOf_27 (Eq.refl 30) ?_
      refine xg_i2l dX1_limitOf_30 (Eq.refl 31) (hM4.I hz3 rfl) ?_
      refine xg_lmul dX1_limitOf_31 (Eq.refl 32) ?_
      refine xg_ladd dX1_limitOf_32 (Eq.refl 33) ?_
      refine xg_lstore_nL (P := R64) (ls2 := fun y5 => [some (.ref x0), some (.ref x1), some (jv y5), none, some (iv x4)]) dX1_limitOf_33 (Eq.refl 34) (by decide) (w64_r _) (fun _ => rfl) ?_
      intro y5 hy5
      refine xg_iinc (ls2 := [some (.ref x0), some (.ref x1), some (jv y5), none, some (iv (w32 (x4 + 1)))]) dX1_limitOf_34 (Eq.refl 37) rfl (by decide) rfl ?_
      refine xg_goto (tgt := 5) dX1_limitOf_37 (by decide) ?_
      exact xg_jump (ih y5 hy5 (w32 (x4 + 1)) (w32_r _) M4 hM4) (xsb_s (xsb_s (xsb_s (xsb_n (xsb_s xsb_0))))) (by decide) (by decide)
theorem mX1_limitOf {l : Launch} {G : xG} (hl : l.stackTraces = false) (x0 : Nat) (h0 : xOb 1 x0) (x1 : Nat) (h1 : xOb 0 x1) (M : xM) (hM : xcan M) : Cm l G yX1_limitOf cX1_limitOf 5 (some .long) 2 2 0 0 [.ref x0, .ref x1] M (fX1_limitOf x0 x1 M) := by
  refine xcm_of (u := uX1_limitOf) (ls := [some (.ref x0), some (.ref x1), none, none, none]) 3 hl rfl (by decide +kernel) (Nat.le_of_ble_eq_true rfl) rfl ?_
  unfold fX1_limitOf
  refine xg_lconst (z := 0) dX1_limitOf_0 (Eq.refl 1) rfl ?_
  refine xg_lstore_n (ls2 := [some (.ref x0), some (.ref x1), some (jv 0), none, none]) dX1_limitOf_1 (Eq.refl 2) (by decide) rfl ?_
  refine xg_iconst dX1_limitOf_2 (Eq.refl 3) ?_
  refine xg_istore (ls2 := [some (.ref x0), some (.ref x1), some (jv 0), none, some (iv 0)]) dX1_limitOf_3 (Eq.refl 5) (by decide) rfl ?_
  exact xg_jump (gX1_limitOf_5 hl x0 h0 x1 h1 xN 0 (by decide) 0 (by decide) M hM) (xsb_s (xsb_s (xsb_s (xsb_n (xsb_s xsb_0))))) (by decide) (by decide)
abbrev uX1_isFirm : xU := (RX1, cX1_isFirm, 4, (some .boolean), [], "isFirm")
theorem bX1_isFirm : xYV yX1_isFirm cX1_isFirm 4 (some .boolean) 1 := ⟨xq_385, xq_386, xq_17, xq_387, ⟨by decide +kernel, by decide +kernel, by decide +kernel⟩, by decide⟩
theorem gX1_isFirm_8 {l : Launch} {G : xG} (hl : l.stackTraces = false) (x0 : Nat) (h0 : xOb 1 x0) (x2 : Nat) (h2 : xOb 0 x2) : ∀ (n : Nat) (x3 : Int) (_ : R32 x3) (M : xM) (_ : xcan M), Gv l G uX1_isFirm 3 1 0 0 8 [some (.ref x0), none, some (.ref x2), some (iv x3)] [] M (fX1_isFirm_8 x0 x2 n x3 M) := by
  intro n; induction n with
  | zero => intro x3 h3 M hM; exact xg_none
  | succ n ih =>
    intro x3 h3 M hM
    rw [fX1_isFirm_8]
    refine xg_iload_n dX1_isFirm_8 (Eq.refl 9) rfl ?_
    refine xg_aload_n dX1_isFirm_9 (Eq.refl 10) rfl ?_
    refine xg_getI (k := 10) xcl1 h0 rfl xq_388 rfl dX1_isFirm_10 (Eq.refl 13) ?_
    refine xg_icmp_ge (tgt := 34) dX1_isFirm_13 (Eq.refl 16) (by decide) h3 (hM.I h0 rfl) ?_ ?_
    · refine xg_aload_n dX1_isFirm_34 (Eq.refl 35) rfl ?_
      refine xg_callV_J (kc := 0) (ks := 0) (st := []) (mX0_freeCash hl x2 h2 M hM) bX0_freeCash xcl0 h2 rfl xq_391 rfl (by decide) rfl (by decide) dX1_isFirm_35 (Eq.refl 38) rfl (by decide) (by decide) ?_
      intro z1 M2 hz1 hM2
      refine xg_aload_n dX1_isFirm_38 (Eq.refl 39) rfl ?_
      refine xg_aload_n dX1_isFirm_39 (Eq.refl 40) rfl ?_
      refine xg_callV_J (kc := 0) (ks := 0) (st := [jv z1]) (mX1_limitOf hl x0 h0 x2 h2 M2 hM2) bX1_limitOf xcl1 h0 rfl xq_397 rfl (by decide) rfl (Nat.le_of_ble_eq_true rfl) dX1_isFirm_40 (Eq.refl 43) rfl (by decide) (by decide) ?_
      intro z3 M4 hz3 hM4
      refine xg_ladd dX1_isFirm_43 (Eq.refl 44) ?_
      refine xg_lconst (z := 0) dX1_isFirm_44 (Eq.refl 45) rfl ?_
      refine xg_lif_lt (tgt := 53) dX1_isFirm_45 (Eq.refl 46) dX1_isFirm_46 (Eq.refl 49) (by decide) (w64_r _) (by decide) ?_ ?_
      · refine xg_iconst dX1_isFirm_53 (Eq.refl 54) ?_
        exact xg_zret rfl dX1_isFirm_54 rfl hM4 (by decide)
      · refine xg_iconst dX1_isFirm_49 (Eq.refl 50) ?_
        refine xg_goto (tgt := 54) dX1_isFirm_50 (by decide) ?_
        exact xg_zret rfl dX1_isFirm_54 rfl hM4 (by decide)
    · refine xg_aload_n dX1_isFirm_16 (Eq.refl 17) rfl ?_
      refine xg_iload_n dX1_isFirm_17 (Eq.refl 18) rfl ?_
      refine xg_callV_J (kc := 0) (ks := 0) (st := []) (mX0_freeOf hl x2 h2 x3 h3 M hM) bX0_freeOf xcl0 h2 rfl xq_390 rfl (by decide) rfl (by decide) dX1_isFirm_18 (Eq.refl 21) rfl (by decide) (by decide) ?_
      intro z5 M6 hz5 hM6
      refine xg_lconst (z := 0) dX1_isFirm_21 (Eq.refl 22) rfl ?_
      refine xg_lif_ge (tgt := 28) dX1_isFirm_22 (Eq.refl 23) dX1_isFirm_23 (Eq.refl 26) (by decide) hz5 (by decide) ?_ ?_
      · refine xg_iinc (ls2 := [some (.ref x0), none, some (.ref x2), some (iv (w32 (x3 + 1)))]) dX1_isFirm_28 (Eq.refl 31) rfl (by decide) rfl ?_
        refine xg_goto (tgt := 8) dX1_isFirm_31 (by decide) ?_
        exact xg_jump (ih (w32 (x3 + 1)) (w32_r _) M6 hM6) (xsb_s (xsb_n (xsb_s (xsb_s xsb_0)))) (by decide) (by decide)
      · refine xg_iconst dX1_isFirm_26 (Eq.refl 27) ?_
        exact xg_zret rfl dX1_isFirm_27 rfl hM6 (by decide)
theorem mX1_isFirm {l : Launch} {G : xG} (hl : l.stackTraces = false) (x0 : Nat) (h0 : xOb 1 x0) (x1 : Int) (h1 : R32 x1) (M : xM) (hM : xcan M) : Cm l G yX1_isFirm cX1_isFirm 4 (some .boolean) 3 1 0 0 [.ref x0, iv x1] M (fX1_isFirm x0 x1 M) := by
  refine xcm_of (u := uX1_isFirm) (ls := [some (.ref x0), some (iv x1), none, none]) 2 hl rfl (by decide +kernel) (Nat.le_of_ble_eq_true rfl) rfl ?_
  unfold fX1_isFirm
  refine xg_aload_n dX1_isFirm_0 (Eq.refl 1) rfl ?_
  refine xg_iload_n dX1_isFirm_1 (Eq.refl 2) rfl ?_
  refine xg_callV_R (cr := 0) (kc := 0) (ks := 0) (st := []) (mX1_account hl x0 h0 x1 h1 M hM) bX1_account xcl1 h0 rfl xq_389 rfl (by decide) rfl (by decide) dX1_isFirm_2 (Eq.refl 5) rfl (by decide) (by decide) ?_
  intro z1 M2 hz1 hM2
  refine xg_astore_n (ls2 := [some (.ref x0), some (iv x1), some (.ref z1.toNat), none]) dX1_isFirm_5 (Eq.refl 6) (by decide) rfl ?_
  refine xg_iconst dX1_isFirm_6 (Eq.refl 7) ?_
  refine xg_istore_n (ls2 := [some (.ref x0), some (iv x1), some (.ref z1.toNat), some (iv 0)]) dX1_isFirm_7 (Eq.refl 8) (by decide) rfl ?_
  exact xg_jump (gX1_isFirm_8 hl x0 h0 z1.toNat hz1 xN 0 (by decide) M2 hM2) (xsb_s (xsb_n (xsb_s (xsb_s xsb_0)))) (by decide) (by decide)
abbrev uX1_owe : xU := (RX1, cX1_owe, 5, none, [], "owe")
theorem bX1_owe : xYV yX1_owe cX1_owe 5 none 3 := ⟨xq_852, xq_853, xq_17, xq_854, ⟨by decide +kernel, by decide +kernel, by decide +kernel⟩, by decide⟩
theorem mX1_owe {l : Launch} {G : xG} (hl : l.stackTraces = false) (x0 : Nat) (h0 : xOb 1 x0) (x1 : Int) (h1 : R32 x1) (x2 : Int) (h2 : R32 x2) (x3 : Int) (h3 : R64 x3) (M : xM) (hM : xcan M) : Cm l G yX1_owe cX1_owe 5 none 2 3 0 0 [.ref x0, iv x1, iv x2, jv x3] M (fX1_owe x0 x1 x2 x3 M) := by
  refine xcm_of (u := uX1_owe) (ls := [some (.ref x0), some (iv x1), some (iv x2), some (jv x3), none]) 0 hl rfl (by decide +kernel) (Nat.le_of_ble_eq_true rfl) rfl ?_
  unfold fX1_owe
  refine xg_aload_n dX1_owe_0 (Eq.refl 1) rfl ?_
  refine xg_iload_n dX1_owe_1 (Eq.refl 2) rfl ?_
  refine xg_callV_R (cr := 0) (kc := 0) (ks := 0) (st := []) (mX1_account hl x0 h0 x1 h1 M hM) bX1_account xcl1 h0 rfl xq_389 rfl (by decide) rfl (by decide) dX1_owe_2 (Eq.refl 5) rfl (by decide) (by decide) ?_
  intro z1 M2 hz1 hM2
  refine xg_dup dX1_owe_5 (Eq.refl 6) rfl ?_
  refine xg_getJ (k := 8) xcl0 hz1 rfl xq_855 rfl dX1_owe_6 (Eq.refl 9) ?_
  refine xg_lload_n dX1_owe_9 (Eq.refl 10) rfl ?_
  refine xg_lsub dX1_owe_10 (Eq.refl 11) ?_
  refine xg_putJ (k := 8) xcl0 hz1 rfl xq_855 rfl (by decide +kernel) dX1_owe_11 (Eq.refl 14) rfl hM2 (w64_r _) ?_
  intro M3 hM3
  refine xg_aload_n dX1_owe_14 (Eq.refl 15) rfl ?_
  refine xg_iload_n dX1_owe_15 (Eq.refl 16) rfl ?_
  refine xg_callV_R (cr := 0) (kc := 0) (ks := 0) (st := []) (mX1_account hl x0 h0 x2 h2 M3 hM3) bX1_account xcl1 h0 rfl xq_389 rfl (by decide) rfl (by decide) dX1_owe_16 (Eq.refl 19) rfl (by decide) (by decide) ?_
  intro z4 M5 hz4 hM5
  refine xg_dup dX1_owe_19 (Eq.refl 20) rfl ?_
  refine xg_getJ (k := 8) xcl0 hz4 rfl xq_855 rfl dX1_owe_20 (Eq.refl 23) ?_
  refine xg_lload_n dX1_owe_23 (Eq.refl 24) rfl ?_
  refine xg_ladd dX1_owe_24 (Eq.refl 25) ?_
  refine xg_putJ (k := 8) xcl0 hz4 rfl xq_855 rfl (by decide +kernel) dX1_owe_25 (Eq.refl 28) rfl hM5 (w64_r _) ?_
  intro M6 hM6
  exact xg_vret rfl dX1_owe_28 rfl hM6
abbrev uX5_fits : xU := (RX5, cX5_fits, 3, (some .boolean), [], "fits")
theorem bX5_fits : xYV yX5_fits cX5_fits 3 (some .boolean) 2 := ⟨xq_457, xq_458, xq_59, xq_459, ⟨by decide +kernel, by decide +kernel, by decide +kernel⟩, by decide⟩
theorem mX5_fits {l : Launch} {G : xG} (hl : l.stackTraces = false) (x0 : Nat) (h0 : xOb 5 x0) (x1 : Nat) (h1 : xOb 5 x1) (x2 : Int) (h2 : R32 x2) (M : xM) (hM : xcan M) : Cm l G yX5_fits cX5_fits 3 (some .boolean) 1 1 0 0 [.ref x0, .ref x1, iv x2] M (fX5_fits x0 x1 x2 M) := by
  refine xcm_of (u := uX5_fits) (ls := [some (.ref x0), some (.ref x1), some (iv x2)]) 0 hl rfl (by decide +kernel) (Nat.le_of_ble_eq_true rfl) rfl ?_
  unfold fX5_fits
  refine xg_aload_n dX5_fits_0 (Eq.refl 1) rfl ?_
  refine xg_getI (k := 9) xcl5 h0 rfl xq_82 rfl dX5_fits_1 (Eq.refl 4) ?_
  refine xg_if_ne (tgt := 90) dX5_fits_4 (Eq.refl 7) (by decide) (hM.I h0 rfl) ?_ ?_
  · refine xg_aload_n dX5_fits_7 (Eq.refl 8) rfl ?_
    refine xg_getI (k := 0) xcl5 h0 rfl xq_460 rfl dX5_fits_8 (Eq.refl 11) ?_
    refine xg_aload_n dX5_fits_11 (Eq.refl 12) rfl ?_
    refine xg_getI (k := 1) xcl5 h1 rfl xq_461 rfl dX5_fits_12 (Eq.refl 15) ?_
    refine xg_icmp_ne (tgt := 90) dX5_fits_15 (Eq.refl 18) (by decide) (hM.I h0 rfl) (hM.I h1 rfl) ?_ ?_
    · refine xg_aload_n dX5_fits_18 (Eq.refl 19) rfl ?_
      refine xg_getI (k := 1) xcl5 h0 rfl xq_461 rfl dX5_fits_19 (Eq.refl 22) ?_
      refine xg_aload_n dX5_fits_22 (Eq.refl 23) rfl ?_
      refine xg_getI (k := 0) xcl5 h1 rfl xq_460 rfl dX5_fits_23 (Eq.refl 26) ?_
      refine xg_icmp_ne (tgt := 90) dX5_fits_26 (Eq.refl 29) (by decide) (hM.I h0 rfl) (hM.I h1 rfl) ?_ ?_
      · refine xg_aload_n dX5_fits_29 (Eq.refl 30) rfl ?_
        refine xg_getZ (k := 2) xcl5 h0 rfl xq_462 rfl dX5_fits_30 (Eq.refl 33) hM ?_
        refine xg_aload_n dX5_fits_33 (Eq.refl 34) rfl ?_
        refine xg_getZ (k := 2) xcl5 h1 rfl xq_462 rfl dX5_fits_34 (Eq.refl 37) hM ?_
        refine xg_icmp_eq (tgt := 90) dX5_fits_37 (Eq.refl 40) (by decide) (B01.r (hM.Z h0 rfl)) (B01.r (hM.Z h1 rfl)) ?_ ?_
        · refine xg_iconst dX5_fits_90 (Eq.refl 91) ?_
          exact xg_zret rfl dX5_fits_91 rfl hM (by decide)
        · refine xg_aload_n dX5_fits_40 (Eq.refl 41) rfl ?_
          refine xg_getI (k := 3) xcl5 h0 rfl xq_463 rfl dX5_fits_41 (Eq.refl 44) ?_
          refine xg_aload_n dX5_fits_44 (Eq.refl 45) rfl ?_
          refine xg_getI (k := 3) xcl5 h1 rfl xq_463 rfl dX5_fits_45 (Eq.refl 48) ?_
          refine xg_icmp_ne (tgt := 90) dX5_fits_48 (Eq.refl 51) (by decide) (hM.I h0 rfl) (hM.I h1 rfl) ?_ ?_
          · refine xg_aload_n dX5_fits_51 (Eq.refl 52) rfl ?_
            refine xg_getI (k := 4) xcl5 h0 rfl xq_464 rfl dX5_fits_52 (Eq.refl 55) ?_
            refine xg_aload_n dX5_fits_55 (Eq.refl 56) rfl ?_
            refine xg_getI (k := 4) xcl5 h1 rfl xq_464 rfl dX5_fits_56 (Eq.refl 59) ?_
            refine xg_icmp_ne (tgt := 90) dX5_fits_59 (Eq.refl 62) (by decide) (hM.I h0 rfl) (hM.I h1 rfl) ?_ ?_
            · refine xg_aload_n dX5_fits_62 (Eq.refl 63) rfl ?_
              refine xg_getI (k := 6) xcl5 h0 rfl xq_465 rfl dX5_fits_63 (Eq.refl 66) ?_
              refine xg_aload_n dX5_fits_66 (Eq.refl 67) rfl ?_
              refine xg_getI (k := 6) xcl5 h1 rfl xq_465 rfl dX5_fits_67 (Eq.refl 70) ?_
              refine xg_icmp_ne (tgt := 90) dX5_fits_70 (Eq.refl 73) (by decide) (hM.I h0 rfl) (hM.I h1 rfl) ?_ ?_
              · refine xg_aload_n dX5_fits_73 (Eq.refl 74) rfl ?_
                refine xg_getI (k := 5) xcl5 h0 rfl xq_466 rfl dX5_fits_74 (Eq.refl 77) ?_
                refine xg_iload_n dX5_fits_77 (Eq.refl 78) rfl ?_
                refine xg_isub dX5_fits_78 (Eq.refl 79) ?_
                refine xg_mabs xq_467 xq_454 xq_306 xq_455 dX5_fits_79 (Eq.refl 82) (w32_r _) (by decide) ?_
                refine xg_iconst dX5_fits_82 (Eq.refl 83) ?_
                refine xg_icmp_gt (tgt := 90) dX5_fits_83 (Eq.refl 86) (by decide) (w32_r _) (by decide) ?_ ?_
                · refine xg_iconst dX5_fits_90 (Eq.refl 91) ?_
                  exact xg_zret rfl dX5_fits_91 rfl hM (by decide)
                · refine xg_iconst dX5_fits_86 (Eq.refl 87) ?_
                  refine xg_goto (tgt := 91) dX5_fits_87 (by decide) ?_
                  exact xg_zret rfl dX5_fits_91 rfl hM (by decide)
              · refine xg_iconst dX5_fits_90 (Eq.refl 91) ?_
                exact xg_zret rfl dX5_fits_91 rfl hM (by decide)
            · refine xg_iconst dX5_fits_90 (Eq.refl 91) ?_
              exact xg_zret rfl dX5_fits_91 rfl hM (by decide)
          · refine xg_iconst dX5_fits_90 (Eq.refl 91) ?_
            exact xg_zret rfl dX5_fits_91 rfl hM (by decide)
      · refine xg_iconst dX5_fits_90 (Eq.refl 91) ?_
        exact xg_zret rfl dX5_fits_91 rfl hM (by decide)
    · refine xg_iconst dX5_fits_90 (Eq.refl 91) ?_
      exact xg_zret rfl dX5_fits_91 rfl hM (by decide)
  · refine xg_iconst dX5_fits_90 (Eq.refl 91) ?_
    exact xg_zret rfl dX5_fits_91 rfl hM (by decide)
abbrev uX1_partnerFor : xU := (RX1, cX1_partnerFor, 8, (some .int), [], "partnerFor")
theorem bX1_partnerFor : xYV yX1_partnerFor cX1_partnerFor 8 (some .int) 2 := ⟨xq_448, xq_449, xq_17, xq_450, ⟨by decide +kernel, by decide +kernel, by decide +kernel⟩, by decide⟩
theorem gX1_partnerFor_61 {l : Launch} {G : xG} (hl : l.stackTraces = false) (rc8 : Int → Int → Int → xM → xO) (x0 : Nat) (h0 : xOb 1 x0) (x1 : Nat) (h1 : xOb 5 x1) (x2 : Int) (h2 : R32 x2) (x3 : Int) (h3 : R32 x3) (x4 : Int) (h4 : R32 x4) (x5 : Int) (h5 : R32 x5) (hr8 : ∀ w3 : Int, R32 w3 → ∀ w4 : Int, R32 w4 → ∀ w5 : Int, R32 w5 → ∀ M : xM, xcan M → Gv l G uX1_partnerFor 2 0 0 0 8 [some (.ref x0), some (.ref x1), some (iv x2), some (iv w3), some (iv w4), some (iv w5), none, none] [] M (rc8 w3 w4 w5 M)) (M : xM) (hM : xcan M) : Gv l G uX1_partnerFor 2 0 0 0 61 [some (.ref x0), some (.ref x1), some (iv x2), some (iv x3), some (iv x4), some (iv x5), none, none] [] M (fX1_partnerFor_61 rc8 x0 x1 x2 x3 x4 x5 M) := by
  unfold fX1_partnerFor_61
  refine xg_iinc (ls2 := [some (.ref x0), some (.ref x1), some (iv x2), some (iv x3), some (iv x4), some (iv (w32 (x5 + 1))), none, none]) dX1_partnerFor_61 (Eq.refl 64) rfl (by decide) rfl ?_
  refine xg_goto (tgt := 8) dX1_partnerFor_64 (by decide) ?_
  exact xg_jump (hr8 x3 h3 x4 h4 (w32 (x5 + 1)) (w32_r _) M hM) (xsb_s (xsb_s (xsb_s (xsb_s (xsb_s (xsb_s (xsb_n (xsb_n xsb_0)))))))) (by decide) (by decide)
theorem gX1_partnerFor_8 {l : Launch} {G : xG} (hl : l.stackTraces = false) (x0 : Nat) (h0 : xOb 1 x0) (x1 : Nat) (h1 : xOb 5 x1) (x2 : Int) (h2 : R32 x2) : ∀ (n : Nat) (x3 : Int) (_ : R32 x3) (x4 : Int) (_ : R32 x4) (x5 : Int) (_ : R32 x5) (M : xM) (_ : xcan M), Gv l G uX1_partnerFor 2 0 0 0 8 [some (.ref x0), some (.ref x1), some (iv x2), some (iv x3), some (iv x4), some (iv x5), none, none] [] M (fX1_partnerFor_8 x0 x1 x2 n x3 x4 x5 M) := by
  intro n; induction n with
  | zero => intro x3 h3 x4 h4 x5 h5 M hM; exact xg_none
  | succ n ih =>
    intro x3 h3 x4 h4 x5 h5 M hM
    rw [fX1_partnerFor_8]
    refine xg_iload dX1_partnerFor_8 (Eq.refl 10) rfl ?_
    refine xg_aload_n dX1_partnerFor_10 (Eq.refl 11) rfl ?_
    refine xg_getI (k := 11) xcl1 h0 rfl xq_451 rfl dX1_partnerFor_11 (Eq.refl 14) ?_
    refine xg_icmp_ge (tgt := 67) dX1_partnerFor_14 (Eq.refl 17) (by decide) h5 (hM.I h0 rfl) ?_ ?_
    · refine xg_iload_n dX1_partnerFor_67 (Eq.refl 68) rfl ?_
      exact xg_iret rfl dX1_partnerFor_68 rfl hM h3
    · refine xg_aload_n dX1_partnerFor_17 (Eq.refl 18) rfl ?_
      refine xg_iload dX1_partnerFor_18 (Eq.refl 20) rfl ?_
      refine xg_callV_R (cr := 5) (kc := 0) (ks := 0) (st := []) (mX1_instruction hl x0 h0 x5 h5 M hM) bX1_instruction xcl1 h0 rfl xq_323 rfl (by decide) rfl (by decide) dX1_partnerFor_20 (Eq.refl 23) rfl (by decide) (by decide) ?_
      intro z1 M2 hz1 hM2
      refine xg_astore (ls2 := [some (.ref x0), some (.ref x1), some (iv x2), some (iv x3), some (iv x4), some (iv x5), some (.ref z1.toNat), none]) dX1_partnerFor_23 (Eq.refl 25) (by decide) rfl ?_
      refine xg_aload dX1_partnerFor_25 (Eq.refl 27) rfl ?_
      refine xg_getI (k := 5) xcl5 hz1 rfl xq_452 rfl dX1_partnerFor_27 (Eq.refl 30) ?_
      refine xg_iload_n dX1_partnerFor_30 (Eq.refl 31) rfl ?_
      refine xg_isub dX1_partnerFor_31 (Eq.refl 32) ?_
      refine xg_mabs xq_453 xq_454 xq_306 xq_455 dX1_partnerFor_32 (Eq.refl 35) (w32_r _) (by decide) ?_
      refine xg_istoreL (P := R32) (ls2 := fun y3 => [some (.ref x0), some (.ref x1), some (iv x2), some (iv x3), some (iv x4), some (iv x5), some (.ref z1.toNat), some (iv y3)]) dX1_partnerFor_35 (Eq.refl 37) (by decide) (w32_r _) (fun _ => rfl) ?_
      intro y3 hy3
      refine xg_aload dX1_partnerFor_37 (Eq.refl 39) rfl ?_
      refine xg_aload_n dX1_partnerFor_39 (Eq.refl 40) rfl ?_
      refine xg_iload_n dX1_partnerFor_40 (Eq.refl 41) rfl ?_
      refine xg_callV_Z (kc := 0) (ks := 0) (st := []) (mX5_fits hl z1.toNat hz1 x1 h1 x2 h2 M2 hM2) bX5_fits xcl5 hz1 rfl xq_456 rfl (by decide) rfl (by decide) dX1_partnerFor_41 (Eq.refl 44) rfl (by decide) (by decide) ?_
      intro z4 M5 hz4 hM5
      refine xg_if_eq (tgt := 61) dX1_partnerFor_44 (Eq.refl 47) (by decide) (B01.r hz4) ?_ ?_
      · exact xg_jump (gX1_partnerFor_61 hl (fX1_partnerFor_8 x0 x1 x2 n) x0 h0 x1 h1 x2 h2 x3 h3 x4 h4 x5 h5 ih M5 hM5) (xsb_s (xsb_s (xsb_s (xsb_s (xsb_s (xsb_s (xsb_n (xsb_n xsb_0)))))))) (by decide) (by decide)
      · refine xg_iload dX1_partnerFor_47 (Eq.refl 49) rfl ?_
        refine xg_iload dX1_partnerFor_49 (Eq.refl 51) rfl ?_
        refine xg_icmp_ge (tgt := 61) dX1_partnerFor_51 (Eq.refl 54) (by decide) hy3 h4 ?_ ?_
        · exact xg_jump (gX1_partnerFor_61 hl (fX1_partnerFor_8 x0 x1 x2 n) x0 h0 x1 h1 x2 h2 x3 h3 x4 h4 x5 h5 ih M5 hM5) (xsb_s (xsb_s (xsb_s (xsb_s (xsb_s (xsb_s (xsb_n (xsb_n xsb_0)))))))) (by decide) (by decide)
        · refine xg_iload dX1_partnerFor_54 (Eq.refl 56) rfl ?_
          refine xg_istore_n (ls2 := [some (.ref x0), some (.ref x1), some (iv x2), some (iv x5), some (iv x4), some (iv x5), some (.ref z1.toNat), some (iv y3)]) dX1_partnerFor_56 (Eq.refl 57) (by decide) rfl ?_
          refine xg_iload dX1_partnerFor_57 (Eq.refl 59) rfl ?_
          refine xg_istore (ls2 := [some (.ref x0), some (.ref x1), some (iv x2), some (iv x5), some (iv y3), some (iv x5), some (.ref z1.toNat), some (iv y3)]) dX1_partnerFor_59 (Eq.refl 61) (by decide) rfl ?_
          exact xg_jump (gX1_partnerFor_61 hl (fX1_partnerFor_8 x0 x1 x2 n) x0 h0 x1 h1 x2 h2 x5 h5 y3 hy3 x5 h5 ih M5 hM5) (xsb_s (xsb_s (xsb_s (xsb_s (xsb_s (xsb_s (xsb_n (xsb_n xsb_0)))))))) (by decide) (by decide)
theorem mX1_partnerFor {l : Launch} {G : xG} (hl : l.stackTraces = false) (x0 : Nat) (h0 : xOb 1 x0) (x1 : Nat) (h1 : xOb 5 x1) (x2 : Int) (h2 : R32 x2) (M : xM) (hM : xcan M) : Cm l G yX1_partnerFor cX1_partnerFor 8 (some .int) 2 0 0 0 [.ref x0, .ref x1, iv x2] M (fX1_partnerFor x0 x1 x2 M) := by
  refine xcm_of (u := uX1_partnerFor) (ls := [some (.ref x0), some (.ref x1), some (iv x2), none, none, none, none, none]) 5 hl rfl (by decide +kernel) (Nat.le_of_ble_eq_true rfl) rfl ?_
  unfold fX1_partnerFor
  refine xg_iconst dX1_partnerFor_0 (Eq.refl 1) ?_
  refine xg_istore_n (ls2 := [some (.ref x0), some (.ref x1), some (iv x2), some (iv (-1)), none, none, none, none]) dX1_partnerFor_1 (Eq.refl 2) (by decide) rfl ?_
  refine xg_iconst dX1_partnerFor_2 (Eq.refl 3) ?_
  refine xg_istore (ls2 := [some (.ref x0), some (.ref x1), some (iv x2), some (iv (-1)), some (iv 3), none, none, none]) dX1_partnerFor_3 (Eq.refl 5) (by decide) rfl ?_
  refine xg_iconst dX1_partnerFor_5 (Eq.refl 6) ?_
  refine xg_istore (ls2 := [some (.ref x0), some (.ref x1), some (iv x2), some (iv (-1)), some (iv 3), some (iv 0), none, none]) dX1_partnerFor_6 (Eq.refl 8) (by decide) rfl ?_
  exact xg_jump (gX1_partnerFor_8 hl x0 h0 x1 h1 x2 h2 xN (-1) (by decide) 3 (by decide) 0 (by decide) M hM) (xsb_s (xsb_s (xsb_s (xsb_s (xsb_s (xsb_s (xsb_n (xsb_n xsb_0)))))))) (by decide) (by decide)
abbrev uX1_putStatus : xU := (RX1, cX1_putStatus, 3, none, [], "putStatus")
theorem bX1_putStatus : xYV yX1_putStatus cX1_putStatus 3 none 2 := ⟨xq_491, xq_492, xq_17, xq_493, ⟨by decide +kernel, by decide +kernel, by decide +kernel⟩, by decide⟩
theorem mX1_putStatus {l : Launch} {G : xG} (hl : l.stackTraces = false) (x0 : Nat) (h0 : xOb 1 x0) (x1 : Nat) (h1 : xOb 10 x1) (x2 : Int) (h2 : R32 x2) (M : xM) (hM : xcan M) : Cm l G yX1_putStatus cX1_putStatus 3 none 2 3 0 0 [.ref x0, .ref x1, iv x2] M (fX1_putStatus x0 x1 x2 M) := by
  refine xcm_of (u := uX1_putStatus) (ls := [some (.ref x0), some (.ref x1), some (iv x2)]) 0 hl rfl (by decide +kernel) (Nat.le_of_ble_eq_true rfl) rfl ?_
  unfold fX1_putStatus
  refine xg_aload_n dX1_putStatus_0 (Eq.refl 1) rfl ?_
  refine xg_iload_n dX1_putStatus_1 (Eq.refl 2) rfl ?_
  refine xg_putI (k := 12) xcl10 h1 rfl xq_313 rfl (by decide +kernel) dX1_putStatus_2 (Eq.refl 5) rfl hM h2 ?_
  intro M1 hM1
  refine xg_aload_n dX1_putStatus_5 (Eq.refl 6) rfl ?_
  refine xg_aload_n dX1_putStatus_6 (Eq.refl 7) rfl ?_
  refine xg_getI (k := 1) xcl10 h1 rfl xq_320 rfl dX1_putStatus_7 (Eq.refl 10) ?_
  refine xg_callV_R (cr := 5) (kc := 0) (ks := 0) (st := []) (mX1_instruction hl x0 h0 (M1 x1 1) (hM1.I h1 rfl) M1 hM1) bX1_instruction xcl1 h0 rfl xq_323 rfl (by decide) rfl (by decide) dX1_putStatus_10 (Eq.refl 13) rfl (by decide) (by decide) ?_
  intro z2 M3 hz2 hM3
  refine xg_iload_n dX1_putStatus_13 (Eq.refl 14) rfl ?_
  refine xg_putI (k := 9) xcl5 hz2 rfl xq_494 rfl (by decide +kernel) dX1_putStatus_14 (Eq.refl 17) rfl hM3 h2 ?_
  intro M4 hM4
  refine xg_aload_n dX1_putStatus_17 (Eq.refl 18) rfl ?_
  refine xg_aload_n dX1_putStatus_18 (Eq.refl 19) rfl ?_
  refine xg_getI (k := 2) xcl10 h1 rfl xq_322 rfl dX1_putStatus_19 (Eq.refl 22) ?_
  refine xg_callV_R (cr := 5) (kc := 0) (ks := 0) (st := []) (mX1_instruction hl x0 h0 (M4 x1 2) (hM4.I h1 rfl) M4 hM4) bX1_instruction xcl1 h0 rfl xq_323 rfl (by decide) rfl (by decide) dX1_putStatus_22 (Eq.refl 25) rfl (by decide) (by decide) ?_
  intro z5 M6 hz5 hM6
  refine xg_iload_n dX1_putStatus_25 (Eq.refl 26) rfl ?_
  refine xg_putI (k := 9) xcl5 hz5 rfl xq_494 rfl (by decide +kernel) dX1_putStatus_26 (Eq.refl 29) rfl hM6 h2 ?_
  intro M7 hM7
  exact xg_vret rfl dX1_putStatus_29 rfl hM7
abbrev uX8_tell : xU := (RX8, cX8_tell, 2, none, [], "tell")
theorem bX8_tell : xYV yX8_tell cX8_tell 2 none 1 := ⟨xq_500, xq_501, xq_13, xq_502, ⟨by decide +kernel, by decide +kernel, by decide +kernel⟩, by decide⟩
theorem mX8_tell {l : Launch} {G : xG} (hl : l.stackTraces = false) (x0 : Nat) (h0 : xOb 8 x0) (x1 : Int) (h1 : R32 x1) (M : xM) (hM : xcan M) : Cm l G yX8_tell cX8_tell 2 none 1 3 0 0 [.ref x0, iv x1] M (fX8_tell x0 x1 M) := by
  refine xcm_of (u := uX8_tell) (ls := [some (.ref x0), some (iv x1)]) 0 hl rfl (by decide +kernel) (Nat.le_of_ble_eq_true rfl) rfl ?_
  unfold fX8_tell
  refine xg_iload_n dX8_tell_0 (Eq.refl 1) rfl ?_
  refine xg_if_lt (tgt := 23) dX8_tell_1 (Eq.refl 4) (by decide) h1 ?_ ?_
  · exact xg_vret rfl dX8_tell_23 rfl hM
  · refine xg_iload_n dX8_tell_4 (Eq.refl 5) rfl ?_
    refine xg_aload_n dX8_tell_5 (Eq.refl 6) rfl ?_
    refine xg_getR (k := 0) xcl8 h0 rfl xq_32 rfl (xt_8_0 h0).1 dX8_tell_6 (Eq.refl 9) ?_
    refine xg_alen (z := 10) (xt_8_0 h0).2 (by decide) dX8_tell_9 (Eq.refl 10) rfl ?_
    refine xg_icmp_ge (tgt := 23) dX8_tell_10 (Eq.refl 13) (by decide) h1 (by decide) ?_ ?_
    · exact xg_vret rfl dX8_tell_23 rfl hM
    · refine xg_aload_n dX8_tell_13 (Eq.refl 14) rfl ?_
      refine xg_getR (k := 0) xcl8 h0 rfl xq_32 rfl (xt_8_0 h0).1 dX8_tell_14 (Eq.refl 17) ?_
      refine xg_iload_n dX8_tell_17 (Eq.refl 18) rfl ?_
      refine xg_dup2 dX8_tell_18 (Eq.refl 19) rfl rfl ?_
      refine xg_iald (xt_8_0 h0).2 dX8_tell_19 (Eq.refl 20) ?_
      refine xg_iconst dX8_tell_20 (Eq.refl 21) ?_
      refine xg_iadd dX8_tell_21 (Eq.refl 22) ?_
      refine xg_iast (xt_8_0 h0).2 dX8_tell_22 (Eq.refl 23) hM (w32_r _) ?_
      intro M1 hM1
      exact xg_vret rfl dX8_tell_23 rfl hM1
abbrev uX1_tellBoth : xU := (RX1, cX1_tellBoth, 2, none, [], "tellBoth")
theorem bX1_tellBoth : xYV yX1_tellBoth cX1_tellBoth 2 none 1 := ⟨xq_496, xq_497, xq_17, xq_498, ⟨by decide +kernel, by decide +kernel, by decide +kernel⟩, by decide⟩
theorem mX1_tellBoth {l : Launch} {G : xG} (hl : l.stackTraces = false) (x0 : Nat) (h0 : xOb 1 x0) (x1 : Nat) (h1 : xOb 10 x1) (M : xM) (hM : xcan M) : Cm l G yX1_tellBoth cX1_tellBoth 2 none 2 3 0 0 [.ref x0, .ref x1] M (fX1_tellBoth x0 x1 M) := by
  refine xcm_of (u := uX1_tellBoth) (ls := [some (.ref x0), some (.ref x1)]) 0 hl rfl (by decide +kernel) (Nat.le_of_ble_eq_true rfl) rfl ?_
  unfold fX1_tellBoth
  refine xg_aload_n dX1_tellBoth_0 (Eq.refl 1) rfl ?_
  refine xg_getR (k := 0) xcl1 h0 rfl xq_53 rfl (xt_1_0 h0).1 dX1_tellBoth_1 (Eq.refl 4) ?_
  refine xg_aload_n dX1_tellBoth_4 (Eq.refl 5) rfl ?_
  refine xg_getI (k := 3) xcl10 h1 rfl xq_411 rfl dX1_tellBoth_5 (Eq.refl 8) ?_
  refine xg_callV_N (kc := 0) (ks := 0) (st := []) (mX8_tell hl (xr x0 0) (xt_1_0 h0).2 (M x1 3) (hM.I h1 rfl) M hM) bX8_tell xcl8 (xt_1_0 h0).2 rfl xq_499 rfl (by decide) rfl (by decide) dX1_tellBoth_8 (Eq.refl 11) rfl (by decide) (by decide) ?_
  intro z1 M2 hz1 hM2
  refine xg_aload_n dX1_tellBoth_11 (Eq.refl 12) rfl ?_
  refine xg_getR (k := 0) xcl1 h0 rfl xq_53 rfl (xt_1_0 h0).1 dX1_tellBoth_12 (Eq.refl 15) ?_
  refine xg_aload_n dX1_tellBoth_15 (Eq.refl 16) rfl ?_
  refine xg_getI (k := 4) xcl10 h1 rfl xq_413 rfl dX1_tellBoth_16 (Eq.refl 19) ?_
  refine xg_callV_N (kc := 0) (ks := 0) (st := []) (mX8_tell hl (xr x0 0) (xt_1_0 h0).2 (M2 x1 4) (hM2.I h1 rfl) M2 hM2) bX8_tell xcl8 (xt_1_0 h0).2 rfl xq_499 rfl (by decide) rfl (by decide) dX1_tellBoth_19 (Eq.refl 22) rfl (by decide) (by decide) ?_
  intro z3 M4 hz3 hM4
  exact xg_vret rfl dX1_tellBoth_22 rfl hM4
abbrev uX1_match : xU := (RX1, cX1_match, 8, (some .int), [], "match")
theorem bX1_match : xYV yX1_match cX1_match 8 (some .int) 2 := ⟨xq_469, xq_470, xq_17, xq_471, ⟨by decide +kernel, by decide +kernel, by decide +kernel⟩, by decide⟩
theorem gX1_match_218 {l : Launch} {G : xG} (hl : l.stackTraces = false) (x0 : Nat) (h0 : xOb 1 x0) (x3 : Nat) (h3 : xOb 5 x3) (x4 : Nat) (h4 : xOb 5 x4) (x5 : Int) (h5 : R32 x5) (x6 : Nat) (h6 : xOb 10 x6) (s0 : Int) (hs0 : R64 s0) (s1 : Nat) (hs1 : xOb 10 s1) (M : xM) (hM : xcan M) : Gv l G uX1_match 3 0 0 0 218 [some (.ref x0), none, none, some (.ref x3), some (.ref x4), some (iv x5), some (.ref x6), none] [jv s0, .ref s1] M (fX1_match_218 x0 x3 x4 x5 x6 s0 s1 M) := by
  unfold fX1_match_218
  refine xg_putJ (k := 8) xcl10 hs1 rfl xq_487 rfl (by decide +kernel) dX1_match_218 (Eq.refl 221) rfl hM hs0 ?_
  intro M1 hM1
  refine xg_aload_n dX1_match_221 (Eq.refl 222) rfl ?_
  refine xg_iload dX1_match_222 (Eq.refl 224) rfl ?_
  refine xg_iconst dX1_match_224 (Eq.refl 225) ?_
  refine xg_iadd dX1_match_225 (Eq.refl 226) ?_
  refine xg_putI (k := 12) xcl1 h0 rfl xq_472 rfl (by decide +kernel) dX1_match_226 (Eq.refl 229) rfl hM1 (w32_r _) ?_
  intro M2 hM2
  refine xg_aload_n dX1_match_229 (Eq.refl 230) rfl ?_
  refine xg_iload dX1_match_230 (Eq.refl 232) rfl ?_
  refine xg_putI (k := 10) xcl5 h3 rfl xq_488 rfl (by decide +kernel) dX1_match_232 (Eq.refl 235) rfl hM2 h5 ?_
  intro M3 hM3
  refine xg_aload dX1_match_235 (Eq.refl 237) rfl ?_
  refine xg_iload dX1_match_237 (Eq.refl 239) rfl ?_
  refine xg_putI (k := 10) xcl5 h4 rfl xq_488 rfl (by decide +kernel) dX1_match_239 (Eq.refl 242) rfl hM3 h5 ?_
  intro M4 hM4
  refine xg_aload_n dX1_match_242 (Eq.refl 243) rfl ?_
  refine xg_aload dX1_match_243 (Eq.refl 245) rfl ?_
  refine xg_iconst dX1_match_245 (Eq.refl 246) ?_
  refine xg_callV_N (kc := 0) (ks := 0) (st := []) (mX1_putStatus hl x0 h0 x6 h6 1 (by decide) M4 hM4) bX1_putStatus xcl1 h0 rfl xq_490 rfl (by decide) rfl (by decide) dX1_match_246 (Eq.refl 249) rfl (by decide) (by decide) ?_
  intro z5 M6 hz5 hM6
  refine xg_aload_n dX1_match_249 (Eq.refl 250) rfl ?_
  refine xg_aload dX1_match_250 (Eq.refl 252) rfl ?_
  refine xg_callV_N (kc := 0) (ks := 0) (st := []) (mX1_tellBoth hl x0 h0 x6 h6 M6 hM6) bX1_tellBoth xcl1 h0 rfl xq_495 rfl (by decide) rfl (by decide) dX1_match_252 (Eq.refl 255) rfl (by decide) (by decide) ?_
  intro z7 M8 hz7 hM8
  refine xg_iload dX1_match_255 (Eq.refl 257) rfl ?_
  exact xg_iret rfl dX1_match_257 rfl hM8 h5
theorem gX1_match_192 {l : Launch} {G : xG} (hl : l.stackTraces = false) (x0 : Nat) (h0 : xOb 1 x0) (x3 : Nat) (h3 : xOb 5 x3) (x4 : Nat) (h4 : xOb 5 x4) (x5 : Int) (h5 : R32 x5) (x6 : Nat) (h6 : xOb 10 x6) (s0 : Int) (hs0 : B01 s0) (M : xM) (hM : xcan M) : Gv l G uX1_match 3 0 0 0 192 [some (.ref x0), none, none, some (.ref x3), some (.ref x4), some (iv x5), some (.ref x6), none] [iv s0] M (fX1_match_192 x0 x3 x4 x5 x6 s0 M) := by
  unfold fX1_match_192
  refine xg_istore (ls2 := [some (.ref x0), none, none, some (.ref x3), some (.ref x4), some (iv x5), some (.ref x6), some (iv s0)]) dX1_match_192 (Eq.refl 194) (by decide) rfl ?_
  refine xg_aload dX1_match_194 (Eq.refl 196) rfl ?_
  refine xg_iload dX1_match_196 (Eq.refl 198) rfl ?_
  refine xg_if_eq (tgt := 205) dX1_match_198 (Eq.refl 201) (by decide) (B01.r hs0) ?_ ?_
  · refine xg_aload_n dX1_match_205 (Eq.refl 206) rfl ?_
    refine xg_getI (k := 8) xcl5 h3 rfl xq_486 rfl dX1_match_206 (Eq.refl 209) ?_
    refine xg_aload dX1_match_209 (Eq.refl 211) rfl ?_
    refine xg_getI (k := 8) xcl5 h4 rfl xq_486 rfl dX1_match_211 (Eq.refl 214) ?_
    refine xg_mmaxi xq_482 xq_483 xq_306 xq_484 dX1_match_214 (Eq.refl 217) (hM.I h3 rfl) (hM.I h4 rfl) (Nat.le_of_ble_eq_true rfl) ?_
    refine xg_i2l dX1_match_217 (Eq.refl 218) (xmaxi_r (hM.I h3 rfl) (hM.I h4 rfl)) ?_
    exact xg_jump (gX1_match_218 hl x0 h0 x3 h3 x4 h4 x5 h5 x6 h6 (max (M x3 8) (M x4 8)) (R32.j (xmaxi_r (hM.I h3 rfl) (hM.I h4 rfl))) x6 h6 M hM) (xsb_s (xsb_n (xsb_n (xsb_s (xsb_s (xsb_s (xsb_s (xsb_n xsb_0)))))))) (by decide) (by decide)
  · refine xg_lconst (z := 0) dX1_match_201 (Eq.refl 202) rfl ?_
    refine xg_goto (tgt := 218) dX1_match_202 (by decide) ?_
    exact xg_jump (gX1_match_218 hl x0 h0 x3 h3 x4 h4 x5 h5 x6 h6 0 (by decide) x6 h6 M hM) (xsb_s (xsb_n (xsb_n (xsb_s (xsb_s (xsb_s (xsb_s (xsb_n xsb_0)))))))) (by decide) (by decide)
theorem gX1_match_187 {l : Launch} {G : xG} (hl : l.stackTraces = false) (x0 : Nat) (h0 : xOb 1 x0) (x3 : Nat) (h3 : xOb 5 x3) (x4 : Nat) (h4 : xOb 5 x4) (x5 : Int) (h5 : R32 x5) (x6 : Nat) (h6 : xOb 10 x6) (M : xM) (hM : xcan M) : Gv l G uX1_match 3 0 0 0 187 [some (.ref x0), none, none, some (.ref x3), some (.ref x4), some (iv x5), some (.ref x6), none] [] M (fX1_match_187 x0 x3 x4 x5 x6 M) := by
  unfold fX1_match_187
  refine xg_iconst dX1_match_187 (Eq.refl 188) ?_
  refine xg_goto (tgt := 192) dX1_match_188 (by decide) ?_
  exact xg_jump (gX1_match_192 hl x0 h0 x3 h3 x4 h4 x5 h5 x6 h6 1 (by decide) M hM) (xsb_s (xsb_n (xsb_n (xsb_s (xsb_s (xsb_s (xsb_s (xsb_n xsb_0)))))))) (by decide) (by decide)
theorem gX1_match_106 {l : Launch} {G : xG} (hl : l.stackTraces = false) (x0 : Nat) (h0 : xOb 1 x0) (x3 : Nat) (h3 : xOb 5 x3) (x4 : Nat) (h4 : xOb 5 x4) (x5 : Int) (h5 : R32 x5) (x6 : Nat) (h6 : xOb 10 x6) (s0 : Int) (hs0 : R32 s0) (s1 : Nat) (hs1 : xOb 10 s1) (M : xM) (hM : xcan M) : Gv l G uX1_match 3 0 0 0 106 [some (.ref x0), none, none, some (.ref x3), some (.ref x4), some (iv x5), some (.ref x6), none] [iv s0, .ref s1] M (fX1_match_106 x0 x3 x4 x5 x6 s0 s1 M) := by
  unfold fX1_match_106
  refine xg_putI (k := 4) xcl10 hs1 rfl xq_413 rfl (by decide +kernel) dX1_match_106 (Eq.refl 109) rfl hM hs0 ?_
  intro M1 hM1
  refine xg_aload dX1_match_109 (Eq.refl 111) rfl ?_
  refine xg_aload_n dX1_match_111 (Eq.refl 112) rfl ?_
  refine xg_getI (k := 3) xcl5 h3 rfl xq_475 rfl dX1_match_112 (Eq.refl 115) ?_
  refine xg_putI (k := 5) xcl10 h6 rfl xq_412 rfl (by decide +kernel) dX1_match_115 (Eq.refl 118) rfl hM1 (hM1.I h3 rfl) ?_
  intro M2 hM2
  refine xg_aload dX1_match_118 (Eq.refl 120) rfl ?_
  refine xg_aload_n dX1_match_120 (Eq.refl 121) rfl ?_
  refine xg_getI (k := 4) xcl5 h3 rfl xq_476 rfl dX1_match_121 (Eq.refl 124) ?_
  refine xg_i2l dX1_match_124 (Eq.refl 125) (hM2.I h3 rfl) ?_
  refine xg_putJ (k := 6) xcl10 h6 rfl xq_477 rfl (by decide +kernel) dX1_match_125 (Eq.refl 128) rfl hM2 (R32.j (hM2.I h3 rfl)) ?_
  intro M3 hM3
  refine xg_aload dX1_match_128 (Eq.refl 130) rfl ?_
  refine xg_aload_n dX1_match_130 (Eq.refl 131) rfl ?_
  refine xg_getI (k := 5) xcl5 h3 rfl xq_452 rfl dX1_match_131 (Eq.refl 134) ?_
  refine xg_aload dX1_match_134 (Eq.refl 136) rfl ?_
  refine xg_getI (k := 5) xcl5 h4 rfl xq_452 rfl dX1_match_136 (Eq.refl 139) ?_
  refine xg_mmini xq_478 xq_305 xq_306 xq_307 dX1_match_139 (Eq.refl 142) (hM3.I h3 rfl) (hM3.I h4 rfl) (Nat.le_of_ble_eq_true rfl) ?_
  refine xg_i2l dX1_match_142 (Eq.refl 143) (xmini_r (hM3.I h3 rfl) (hM3.I h4 rfl)) ?_
  refine xg_putJ (k := 7) xcl10 h6 rfl xq_479 rfl (by decide +kernel) dX1_match_143 (Eq.refl 146) rfl hM3 (R32.j (xmini_r (hM3.I h3 rfl) (hM3.I h4 rfl))) ?_
  intro M4 hM4
  refine xg_aload dX1_match_146 (Eq.refl 148) rfl ?_
  refine xg_aload_n dX1_match_148 (Eq.refl 149) rfl ?_
  refine xg_getI (k := 6) xcl5 h3 rfl xq_480 rfl dX1_match_149 (Eq.refl 152) ?_
  refine xg_putI (k := 9) xcl10 h6 rfl xq_314 rfl (by decide +kernel) dX1_match_152 (Eq.refl 155) rfl hM4 (hM4.I h3 rfl) ?_
  intro M5 hM5
  refine xg_aload dX1_match_155 (Eq.refl 157) rfl ?_
  refine xg_aload_n dX1_match_157 (Eq.refl 158) rfl ?_
  refine xg_getI (k := 7) xcl5 h3 rfl xq_481 rfl dX1_match_158 (Eq.refl 161) ?_
  refine xg_aload dX1_match_161 (Eq.refl 163) rfl ?_
  refine xg_getI (k := 7) xcl5 h4 rfl xq_481 rfl dX1_match_163 (Eq.refl 166) ?_
  refine xg_mmaxi xq_482 xq_483 xq_306 xq_484 dX1_match_166 (Eq.refl 169) (hM5.I h3 rfl) (hM5.I h4 rfl) (Nat.le_of_ble_eq_true rfl) ?_
  refine xg_putI (k := 10) xcl10 h6 rfl xq_485 rfl (by decide +kernel) dX1_match_169 (Eq.refl 172) rfl hM5 (xmaxi_r (hM5.I h3 rfl) (hM5.I h4 rfl)) ?_
  intro M6 hM6
  refine xg_aload_n dX1_match_172 (Eq.refl 173) rfl ?_
  refine xg_getI (k := 8) xcl5 h3 rfl xq_486 rfl dX1_match_173 (Eq.refl 176) ?_
  refine xg_if_eq (tgt := 187) dX1_match_176 (Eq.refl 179) (by decide) (hM6.I h3 rfl) ?_ ?_
  · exact xg_jump (gX1_match_187 hl x0 h0 x3 h3 x4 h4 x5 h5 x6 h6 M6 hM6) (xsb_s (xsb_n (xsb_n (xsb_s (xsb_s (xsb_s (xsb_s (xsb_n xsb_0)))))))) (by decide) (by decide)
  · refine xg_aload dX1_match_179 (Eq.refl 181) rfl ?_
    refine xg_getI (k := 8) xcl5 h4 rfl xq_486 rfl dX1_match_181 (Eq.refl 184) ?_
    refine xg_if_ne (tgt := 191) dX1_match_184 (Eq.refl 187) (by decide) (hM6.I h4 rfl) ?_ ?_
    · exact xg_jump (gX1_match_187 hl x0 h0 x3 h3 x4 h4 x5 h5 x6 h6 M6 hM6) (xsb_s (xsb_n (xsb_n (xsb_s (xsb_s (xsb_s (xsb_s (xsb_n xsb_0)))))))) (by decide) (by decide)
    · refine xg_iconst dX1_match_191 (Eq.refl 192) ?_
      exact xg_jump (gX1_match_192 hl x0 h0 x3 h3 x4 h4 x5 h5 x6 h6 0 (by decide) M6 hM6) (xsb_s (xsb_n (xsb_n (xsb_s (xsb_s (xsb_s (xsb_s (xsb_n xsb_0)))))))) (by decide) (by decide)
theorem gX1_match_82 {l : Launch} {G : xG} (hl : l.stackTraces = false) (x0 : Nat) (h0 : xOb 1 x0) (x3 : Nat) (h3 : xOb 5 x3) (x4 : Nat) (h4 : xOb 5 x4) (x5 : Int) (h5 : R32 x5) (x6 : Nat) (h6 : xOb 10 x6) (s0 : Int) (hs0 : R32 s0) (s1 : Nat) (hs1 : xOb 10 s1) (M : xM) (hM : xcan M) : Gv l G uX1_match 3 0 0 0 82 [some (.ref x0), none, none, some (.ref x3), some (.ref x4), some (iv x5), some (.ref x6), none] [iv s0, .ref s1] M (fX1_match_82 x0 x3 x4 x5 x6 s0 s1 M) := by
  unfold fX1_match_82
  refine xg_putI (k := 3) xcl10 hs1 rfl xq_411 rfl (by decide +kernel) dX1_match_82 (Eq.refl 85) rfl hM hs0 ?_
  intro M1 hM1
  refine xg_aload dX1_match_85 (Eq.refl 87) rfl ?_
  refine xg_aload_n dX1_match_87 (Eq.refl 88) rfl ?_
  refine xg_getZ (k := 2) xcl5 h3 rfl xq_473 rfl dX1_match_88 (Eq.refl 91) hM1 ?_
  refine xg_if_eq (tgt := 102) dX1_match_91 (Eq.refl 94) (by decide) (B01.r (hM1.Z h3 rfl)) ?_ ?_
  · refine xg_aload_n dX1_match_102 (Eq.refl 103) rfl ?_
    refine xg_getI (k := 0) xcl5 h3 rfl xq_474 rfl dX1_match_103 (Eq.refl 106) ?_
    exact xg_jump (gX1_match_106 hl x0 h0 x3 h3 x4 h4 x5 h5 x6 h6 (M1 x3 0) (hM1.I h3 rfl) x6 h6 M1 hM1) (xsb_s (xsb_n (xsb_n (xsb_s (xsb_s (xsb_s (xsb_s (xsb_n xsb_0)))))))) (by decide) (by decide)
  · refine xg_aload dX1_match_94 (Eq.refl 96) rfl ?_
    refine xg_getI (k := 0) xcl5 h4 rfl xq_474 rfl dX1_match_96 (Eq.refl 99) ?_
    refine xg_goto (tgt := 106) dX1_match_99 (by decide) ?_
    exact xg_jump (gX1_match_106 hl x0 h0 x3 h3 x4 h4 x5 h5 x6 h6 (M1 x4 0) (hM1.I h4 rfl) x6 h6 M1 hM1) (xsb_s (xsb_n (xsb_n (xsb_s (xsb_s (xsb_s (xsb_s (xsb_n xsb_0)))))))) (by decide) (by decide)
theorem gX1_match_58 {l : Launch} {G : xG} (hl : l.stackTraces = false) (x0 : Nat) (h0 : xOb 1 x0) (x3 : Nat) (h3 : xOb 5 x3) (x4 : Nat) (h4 : xOb 5 x4) (x5 : Int) (h5 : R32 x5) (x6 : Nat) (h6 : xOb 10 x6) (s0 : Int) (hs0 : R32 s0) (s1 : Nat) (hs1 : xOb 10 s1) (M : xM) (hM : xcan M) : Gv l G uX1_match 3 0 0 0 58 [some (.ref x0), none, none, some (.ref x3), some (.ref x4), some (iv x5), some (.ref x6), none] [iv s0, .ref s1] M (fX1_match_58 x0 x3 x4 x5 x6 s0 s1 M) := by
  unfold fX1_match_58
  refine xg_putI (k := 2) xcl10 hs1 rfl xq_322 rfl (by decide +kernel) dX1_match_58 (Eq.refl 61) rfl hM hs0 ?_
  intro M1 hM1
  refine xg_aload dX1_match_61 (Eq.refl 63) rfl ?_
  refine xg_aload_n dX1_match_63 (Eq.refl 64) rfl ?_
  refine xg_getZ (k := 2) xcl5 h3 rfl xq_473 rfl dX1_match_64 (Eq.refl 67) hM1 ?_
  refine xg_if_eq (tgt := 77) dX1_match_67 (Eq.refl 70) (by decide) (B01.r (hM1.Z h3 rfl)) ?_ ?_
  · refine xg_aload dX1_match_77 (Eq.refl 79) rfl ?_
    refine xg_getI (k := 0) xcl5 h4 rfl xq_474 rfl dX1_match_79 (Eq.refl 82) ?_
    exact xg_jump (gX1_match_82 hl x0 h0 x3 h3 x4 h4 x5 h5 x6 h6 (M1 x4 0) (hM1.I h4 rfl) x6 h6 M1 hM1) (xsb_s (xsb_n (xsb_n (xsb_s (xsb_s (xsb_s (xsb_s (xsb_n xsb_0)))))))) (by decide) (by decide)
  · refine xg_aload_n dX1_match_70 (Eq.refl 71) rfl ?_
    refine xg_getI (k := 0) xcl5 h3 rfl xq_474 rfl dX1_match_71 (Eq.refl 74) ?_
    refine xg_goto (tgt := 82) dX1_match_74 (by decide) ?_
    exact xg_jump (gX1_match_82 hl x0 h0 x3 h3 x4 h4 x5 h5 x6 h6 (M1 x3 0) (hM1.I h3 rfl) x6 h6 M1 hM1) (xsb_s (xsb_n (xsb_n (xsb_s (xsb_s (xsb_s (xsb_s (xsb_n xsb_0)))))))) (by decide) (by decide)
theorem gX1_match_41 {l : Launch} {G : xG} (hl : l.stackTraces = false) (x0 : Nat) (h0 : xOb 1 x0) (x1 : Int) (h1 : R32 x1) (x2 : Int) (h2 : R32 x2) (x3 : Nat) (h3 : xOb 5 x3) (x4 : Nat) (h4 : xOb 5 x4) (x5 : Int) (h5 : R32 x5) (x6 : Nat) (h6 : xOb 10 x6) (s0 : Int) (hs0 : R32 s0) (s1 : Nat) (hs1 : xOb 10 s1) (M : xM) (hM : xcan M) : Gv l G uX1_match 3 0 0 0 41 [some (.ref x0), some (iv x1), some (iv x2), some (.ref x3), some (.ref x4), some (iv x5), some (.ref x6), none] [iv s0, .ref s1] M (fX1_match_41 x0 x1 x2 x3 x4 x5 x6 s0 s1 M) := by
  unfold fX1_match_41
  refine xg_putI (k := 1) xcl10 hs1 rfl xq_320 rfl (by decide +kernel) dX1_match_41 (Eq.refl 44) rfl hM hs0 ?_
  intro M1 hM1
  refine xg_aload dX1_match_44 (Eq.refl 46) rfl ?_
  refine xg_aload_n dX1_match_46 (Eq.refl 47) rfl ?_
  refine xg_getZ (k := 2) xcl5 h3 rfl xq_473 rfl dX1_match_47 (Eq.refl 50) hM1 ?_
  refine xg_if_eq (tgt := 57) dX1_match_50 (Eq.refl 53) (by decide) (B01.r (hM1.Z h3 rfl)) ?_ ?_
  · refine xg_iload_n dX1_match_57 (Eq.refl 58) rfl ?_
    exact xg_jump (gX1_match_58 hl x0 h0 x3 h3 x4 h4 x5 h5 x6 h6 x1 h1 x6 h6 M1 hM1) (xsb_s (xsb_n (xsb_n (xsb_s (xsb_s (xsb_s (xsb_s (xsb_n xsb_0)))))))) (by decide) (by decide)
  · refine xg_iload_n dX1_match_53 (Eq.refl 54) rfl ?_
    refine xg_goto (tgt := 58) dX1_match_54 (by decide) ?_
    exact xg_jump (gX1_match_58 hl x0 h0 x3 h3 x4 h4 x5 h5 x6 h6 x2 h2 x6 h6 M1 hM1) (xsb_s (xsb_n (xsb_n (xsb_s (xsb_s (xsb_s (xsb_s (xsb_n xsb_0)))))))) (by decide) (by decide)
theorem mX1_match {l : Launch} {G : xG} (hl : l.stackTraces = false) (x0 : Nat) (h0 : xOb 1 x0) (x1 : Int) (h1 : R32 x1) (x2 : Int) (h2 : R32 x2) (M : xM) (hM : xcan M) : Cm l G yX1_match cX1_match 8 (some .int) 3 0 0 0 [.ref x0, iv x1, iv x2] M (fX1_match x0 x1 x2 M) := by
  refine xcm_of (u := uX1_match) (ls := [some (.ref x0), some (iv x1), some (iv x2), none, none, none, none, none]) 5 hl rfl (by decide +kernel) (Nat.le_of_ble_eq_true rfl) rfl ?_
  unfold fX1_match
  refine xg_aload_n dX1_match_0 (Eq.refl 1) rfl ?_
  refine xg_iload_n dX1_match_1 (Eq.refl 2) rfl ?_
  refine xg_callV_R (cr := 5) (kc := 0) (ks := 0) (st := []) (mX1_instruction hl x0 h0 x1 h1 M hM) bX1_instruction xcl1 h0 rfl xq_323 rfl (by decide) rfl (by decide) dX1_match_2 (Eq.refl 5) rfl (by decide) (by decide) ?_
  intro z1 M2 hz1 hM2
  refine xg_astore_n (ls2 := [some (.ref x0), some (iv x1), some (iv x2), some (.ref z1.toNat), none, none, none, none]) dX1_match_5 (Eq.refl 6) (by decide) rfl ?_
  refine xg_aload_n dX1_match_6 (Eq.refl 7) rfl ?_
  refine xg_iload_n dX1_match_7 (Eq.refl 8) rfl ?_
  refine xg_callV_R (cr := 5) (kc := 0) (ks := 0) (st := []) (mX1_instruction hl x0 h0 x2 h2 M2 hM2) bX1_instruction xcl1 h0 rfl xq_323 rfl (by decide) rfl (by decide) dX1_match_8 (Eq.refl 11) rfl (by decide) (by decide) ?_
  intro z3 M4 hz3 hM4
  refine xg_astore (ls2 := [some (.ref x0), some (iv x1), some (iv x2), some (.ref z1.toNat), some (.ref z3.toNat), none, none, none]) dX1_match_11 (Eq.refl 13) (by decide) rfl ?_
  refine xg_aload_n dX1_match_13 (Eq.refl 14) rfl ?_
  refine xg_getI (k := 12) xcl1 h0 rfl xq_472 rfl dX1_match_14 (Eq.refl 17) ?_
  refine xg_istore (ls2 := [some (.ref x0), some (iv x1), some (iv x2), some (.ref z1.toNat), some (.ref z3.toNat), some (iv (M4 x0 12)), none, none]) dX1_match_17 (Eq.refl 19) (by decide) rfl ?_
  refine xg_aload_n dX1_match_19 (Eq.refl 20) rfl ?_
  refine xg_iload dX1_match_20 (Eq.refl 22) rfl ?_
  refine xg_callV_R (cr := 10) (kc := 0) (ks := 0) (st := []) (mX1_trade hl x0 h0 (M4 x0 12) (hM4.I h0 rfl) M4 hM4) bX1_trade xcl1 h0 rfl xq_489 rfl (by decide) rfl (by decide) dX1_match_22 (Eq.refl 25) rfl (by decide) (by decide) ?_
  intro z5 M6 hz5 hM6
  refine xg_astore (ls2 := [some (.ref x0), some (iv x1), some (iv x2), some (.ref z1.toNat), some (.ref z3.toNat), some (iv (M4 x0 12)), some (.ref z5.toNat), none]) dX1_match_25 (Eq.refl 27) (by decide) rfl ?_
  refine xg_aload dX1_match_27 (Eq.refl 29) rfl ?_
  refine xg_aload_n dX1_match_29 (Eq.refl 30) rfl ?_
  refine xg_getZ (k := 2) xcl5 hz1 rfl xq_473 rfl dX1_match_30 (Eq.refl 33) hM6 ?_
  refine xg_if_eq (tgt := 40) dX1_match_33 (Eq.refl 36) (by decide) (B01.r (hM6.Z hz1 rfl)) ?_ ?_
  · refine xg_iload_n dX1_match_40 (Eq.refl 41) rfl ?_
    exact xg_jump (gX1_match_41 hl x0 h0 x1 h1 x2 h2 z1.toNat hz1 z3.toNat hz3 (M4 x0 12) (hM4.I h0 rfl) z5.toNat hz5 x2 h2 z5.toNat hz5 M6 hM6) (xsb_s (xsb_s (xsb_s (xsb_s (xsb_s (xsb_s (xsb_s (xsb_n xsb_0)))))))) (by decide) (by decide)
  · refine xg_iload_n dX1_match_36 (Eq.refl 37) rfl ?_
    refine xg_goto (tgt := 41) dX1_match_37 (by decide) ?_
    exact xg_jump (gX1_match_41 hl x0 h0 x1 h1 x2 h2 z1.toNat hz1 z3.toNat hz3 (M4 x0 12) (hM4.I h0 rfl) z5.toNat hz5 x1 h1 z5.toNat hz5 M6 hM6) (xsb_s (xsb_s (xsb_s (xsb_s (xsb_s (xsb_s (xsb_s (xsb_n xsb_0)))))))) (by decide) (by decide)
