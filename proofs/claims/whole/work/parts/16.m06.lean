abbrev uX12_cancel : xU := (RX12, cX12_cancel, 4, (some .boolean), [], "cancel")
theorem bX12_cancel : xYV yX12_cancel cX12_cancel 4 (some .boolean) 1 := ⟨xq_563, xq_564, xq_5, xq_565, ⟨by decide +kernel, by decide +kernel, by decide +kernel⟩, by decide⟩
theorem gX12_cancel_169 {l : Launch} {G : xG} (hl : l.stackTraces = false) (x0 : Nat) (h0 : xOb 12 x0) (x2 : Int) (h2 : R32 x2) (s0 : Int) (hs0 : B01 s0) (M : xM) (hM : xcan M) : Gv l G uX12_cancel 4 1 0 0 169 [some (.ref x0), none, some (iv x2), none] [iv s0] M (fX12_cancel_169 x0 x2 s0 M) := by
  unfold fX12_cancel_169
  refine xg_istore_n (ls2 := [some (.ref x0), none, some (iv x2), some (iv s0)]) dX12_cancel_169 (Eq.refl 170) (by decide) rfl ?_
  refine xg_iload_n dX12_cancel_170 (Eq.refl 171) rfl ?_
  refine xg_if_eq (tgt := 180) dX12_cancel_171 (Eq.refl 174) (by decide) (B01.r hs0) ?_ ?_
  · refine xg_iload_n dX12_cancel_180 (Eq.refl 181) rfl ?_
    exact xg_zret rfl dX12_cancel_181 rfl hM hs0
  · refine xg_aload_n dX12_cancel_174 (Eq.refl 175) rfl ?_
    refine xg_iload_n dX12_cancel_175 (Eq.refl 176) rfl ?_
    refine xg_iconst dX12_cancel_176 (Eq.refl 177) ?_
    refine xg_callV_N (kc := 0) (ks := 0) (st := []) (mX12_over hl x0 h0 x2 h2 2 (by decide) M hM) bX12_over xcl12 h0 rfl xq_566 rfl (by decide) rfl (by decide) dX12_cancel_177 (Eq.refl 180) rfl (by decide) (by decide) ?_
    intro z1 M2 hz1 hM2
    refine xg_iload_n dX12_cancel_180 (Eq.refl 181) rfl ?_
    exact xg_zret rfl dX12_cancel_181 rfl hM2 hs0
theorem gX12_cancel_168 {l : Launch} {G : xG} (hl : l.stackTraces = false) (x0 : Nat) (h0 : xOb 12 x0) (x2 : Int) (h2 : R32 x2) (M : xM) (hM : xcan M) : Gv l G uX12_cancel 4 1 0 0 168 [some (.ref x0), none, some (iv x2), none] [] M (fX12_cancel_168 x0 x2 M) := by
  unfold fX12_cancel_168
  refine xg_iconst dX12_cancel_168 (Eq.refl 169) ?_
  exact xg_jump (gX12_cancel_169 hl x0 h0 x2 h2 0 (by decide) M hM) (xsb_s (xsb_n (xsb_s (xsb_n xsb_0)))) (by decide) (by decide)
theorem gX12_cancel_33 {l : Launch} {G : xG} (hl : l.stackTraces = false) (x0 : Nat) (h0 : xOb 12 x0) (x1 : Int) (h1 : R32 x1) (s0 : Int) (hs0 : R32 s0) (s1 : Nat) (hs1 : xOb 12 s1) (M : xM) (hM : xcan M) : Gv l G uX12_cancel 4 1 0 0 33 [some (.ref x0), some (iv x1), none, none] [iv s0, .ref s1] M (fX12_cancel_33 x0 x1 s0 s1 M) := by
  unfold fX12_cancel_33
  refine xg_callV_Z (kc := 0) (ks := 0) (st := []) (mX12_holds hl s1 hs1 s0 hs0 M hM) bX12_holds xcl12 hs1 rfl xq_187 rfl (by decide) rfl (by decide) dX12_cancel_33 (Eq.refl 36) rfl (by decide) (by decide) ?_
  intro z1 M2 hz1 hM2
  refine xg_if_eq (tgt := 41) dX12_cancel_36 (Eq.refl 39) (by decide) (B01.r hz1) ?_ ?_
  · refine xg_aload_n dX12_cancel_41 (Eq.refl 42) rfl ?_
    refine xg_getR (k := 0) xcl12 h0 rfl xq_122 rfl (xt_12_0 h0).1 dX12_cancel_42 (Eq.refl 45) ?_
    refine xg_sipush dX12_cancel_45 (Eq.refl 48) (by decide +kernel) ?_
    refine xg_iload_n dX12_cancel_48 (Eq.refl 49) rfl ?_
    refine xg_iadd dX12_cancel_49 (Eq.refl 50) ?_
    refine xg_lald (xt_12_0 h0).2 dX12_cancel_50 (Eq.refl 51) ?_
    refine xg_lconst (z := 0) dX12_cancel_51 (Eq.refl 52) rfl ?_
    refine xg_lif_ne (tgt := 91) dX12_cancel_52 (Eq.refl 53) dX12_cancel_53 (Eq.refl 56) (by decide) (hM2.aj (xt_12_0 h0).2) (by decide) ?_ ?_
    · refine xg_aload_n dX12_cancel_56 (Eq.refl 57) rfl ?_
      refine xg_getR (k := 0) xcl12 h0 rfl xq_122 rfl (xt_12_0 h0).1 dX12_cancel_57 (Eq.refl 60) ?_
      refine xg_sipush dX12_cancel_60 (Eq.refl 63) (by decide +kernel) ?_
      refine xg_iload_n dX12_cancel_63 (Eq.refl 64) rfl ?_
      refine xg_iadd dX12_cancel_64 (Eq.refl 65) ?_
      refine xg_ldc2 (z := 3) xq_484 dX12_cancel_65 (Eq.refl 68) (by decide +kernel) ?_
      refine xg_last (xt_12_0 h0).2 dX12_cancel_68 (Eq.refl 69) hM2 (by decide) ?_
      intro M3 hM3
      refine xg_aload_n dX12_cancel_69 (Eq.refl 70) rfl ?_
      refine xg_getR (k := 3) xcl12 h0 rfl xq_124 rfl (xt_12_3 h0).1 dX12_cancel_70 (Eq.refl 73) ?_
      refine xg_aload_n dX12_cancel_73 (Eq.refl 74) rfl ?_
      refine xg_getR (k := 0) xcl12 h0 rfl xq_122 rfl (xt_12_0 h0).1 dX12_cancel_74 (Eq.refl 77) ?_
      refine xg_sipush dX12_cancel_77 (Eq.refl 80) (by decide +kernel) ?_
      refine xg_iload_n dX12_cancel_80 (Eq.refl 81) rfl ?_
      refine xg_iadd dX12_cancel_81 (Eq.refl 82) ?_
      refine xg_lald (xt_12_0 h0).2 dX12_cancel_82 (Eq.refl 83) ?_
      refine xg_l2i dX12_cancel_83 (Eq.refl 84) ?_
      refine xg_dup2 dX12_cancel_84 (Eq.refl 85) rfl rfl ?_
      refine xg_iald (xt_12_3 h0).2 dX12_cancel_85 (Eq.refl 86) ?_
      refine xg_iconst dX12_cancel_86 (Eq.refl 87) ?_
      refine xg_iadd dX12_cancel_87 (Eq.refl 88) ?_
      refine xg_iast (xt_12_3 h0).2 dX12_cancel_88 (Eq.refl 89) hM3 (w32_r _) ?_
      intro M4 hM4
      refine xg_iconst dX12_cancel_89 (Eq.refl 90) ?_
      exact xg_zret rfl dX12_cancel_90 rfl hM4 (by decide)
    · refine xg_aload_n dX12_cancel_91 (Eq.refl 92) rfl ?_
      refine xg_getR (k := 0) xcl12 h0 rfl xq_122 rfl (xt_12_0 h0).1 dX12_cancel_92 (Eq.refl 95) ?_
      refine xg_sipush dX12_cancel_95 (Eq.refl 98) (by decide +kernel) ?_
      refine xg_iload_n dX12_cancel_98 (Eq.refl 99) rfl ?_
      refine xg_iadd dX12_cancel_99 (Eq.refl 100) ?_
      refine xg_lald (xt_12_0 h0).2 dX12_cancel_100 (Eq.refl 101) ?_
      refine xg_l2i dX12_cancel_101 (Eq.refl 102) ?_
      refine xg_istore_nL (P := R32) (ls2 := fun y5 => [some (.ref x0), some (iv x1), some (iv y5), none]) dX12_cancel_102 (Eq.refl 103) (by decide) (w32_r _) (fun _ => rfl) ?_
      intro y5 hy5
      refine xg_aload_n dX12_cancel_103 (Eq.refl 104) rfl ?_
      refine xg_getR (k := 0) xcl12 h0 rfl xq_122 rfl (xt_12_0 h0).1 dX12_cancel_104 (Eq.refl 107) ?_
      refine xg_sipush dX12_cancel_107 (Eq.refl 110) (by decide +kernel) ?_
      refine xg_iload_n dX12_cancel_110 (Eq.refl 111) rfl ?_
      refine xg_iadd dX12_cancel_111 (Eq.refl 112) ?_
      refine xg_lconst (z := 1) dX12_cancel_112 (Eq.refl 113) rfl ?_
      refine xg_last (xt_12_0 h0).2 dX12_cancel_113 (Eq.refl 114) hM2 (by decide) ?_
      intro M6 hM6
      refine xg_aload_n dX12_cancel_114 (Eq.refl 115) rfl ?_
      refine xg_getR (k := 0) xcl12 h0 rfl xq_122 rfl (xt_12_0 h0).1 dX12_cancel_115 (Eq.refl 118) ?_
      refine xg_sipush dX12_cancel_118 (Eq.refl 121) (by decide +kernel) ?_
      refine xg_aload_n dX12_cancel_121 (Eq.refl 122) rfl ?_
      refine xg_getR (k := 0) xcl12 h0 rfl xq_122 rfl (xt_12_0 h0).1 dX12_cancel_122 (Eq.refl 125) ?_
      refine xg_sipush dX12_cancel_125 (Eq.refl 128) (by decide +kernel) ?_
      refine xg_iload_n dX12_cancel_128 (Eq.refl 129) rfl ?_
      refine xg_iadd dX12_cancel_129 (Eq.refl 130) ?_
      refine xg_lald (xt_12_0 h0).2 dX12_cancel_130 (Eq.refl 131) ?_
      refine xg_l2i dX12_cancel_131 (Eq.refl 132) ?_
      refine xg_iadd dX12_cancel_132 (Eq.refl 133) ?_
      refine xg_lald (xt_12_0 h0).2 dX12_cancel_133 (Eq.refl 134) ?_
      refine xg_lconst (z := 1) dX12_cancel_134 (Eq.refl 135) rfl ?_
      refine xg_lif_ne (tgt := 168) dX12_cancel_135 (Eq.refl 136) dX12_cancel_136 (Eq.refl 139) (by decide) (hM6.aj (xt_12_0 h0).2) (by decide) ?_ ?_
      · refine xg_aload_n dX12_cancel_139 (Eq.refl 140) rfl ?_
        refine xg_getR (k := 0) xcl12 h0 rfl xq_122 rfl (xt_12_0 h0).1 dX12_cancel_140 (Eq.refl 143) ?_
        refine xg_sipush dX12_cancel_143 (Eq.refl 146) (by decide +kernel) ?_
        refine xg_aload_n dX12_cancel_146 (Eq.refl 147) rfl ?_
        refine xg_getR (k := 0) xcl12 h0 rfl xq_122 rfl (xt_12_0 h0).1 dX12_cancel_147 (Eq.refl 150) ?_
        refine xg_sipush dX12_cancel_150 (Eq.refl 153) (by decide +kernel) ?_
        refine xg_iload_n dX12_cancel_153 (Eq.refl 154) rfl ?_
        refine xg_iadd dX12_cancel_154 (Eq.refl 155) ?_
        refine xg_lald (xt_12_0 h0).2 dX12_cancel_155 (Eq.refl 156) ?_
        refine xg_l2i dX12_cancel_156 (Eq.refl 157) ?_
        refine xg_iadd dX12_cancel_157 (Eq.refl 158) ?_
        refine xg_lald (xt_12_0 h0).2 dX12_cancel_158 (Eq.refl 159) ?_
        refine xg_lconst (z := 1) dX12_cancel_159 (Eq.refl 160) rfl ?_
        refine xg_lif_ne (tgt := 168) dX12_cancel_160 (Eq.refl 161) dX12_cancel_161 (Eq.refl 164) (by decide) (hM6.aj (xt_12_0 h0).2) (by decide) ?_ ?_
        · refine xg_iconst dX12_cancel_164 (Eq.refl 165) ?_
          refine xg_goto (tgt := 169) dX12_cancel_165 (by decide) ?_
          exact xg_jump (gX12_cancel_169 hl x0 h0 y5 hy5 1 (by decide) M6 hM6) (xsb_s (xsb_n (xsb_s (xsb_n xsb_0)))) (by decide) (by decide)
        · exact xg_jump (gX12_cancel_168 hl x0 h0 y5 hy5 M6 hM6) (xsb_s (xsb_n (xsb_s (xsb_n xsb_0)))) (by decide) (by decide)
      · exact xg_jump (gX12_cancel_168 hl x0 h0 y5 hy5 M6 hM6) (xsb_s (xsb_n (xsb_s (xsb_n xsb_0)))) (by decide) (by decide)
  · refine xg_iconst dX12_cancel_39 (Eq.refl 40) ?_
    exact xg_zret rfl dX12_cancel_40 rfl hM2 (by decide)
theorem mX12_cancel {l : Launch} {G : xG} (hl : l.stackTraces = false) (x0 : Nat) (h0 : xOb 12 x0) (x1 : Int) (h1 : R32 x1) (M : xM) (hM : xcan M) : Cm l G yX12_cancel cX12_cancel 4 (some .boolean) 4 1 0 0 [.ref x0, iv x1] M (fX12_cancel x0 x1 M) := by
  refine xcm_of (u := uX12_cancel) (ls := [some (.ref x0), some (iv x1), none, none]) 2 hl rfl (by decide +kernel) (Nat.le_of_ble_eq_true rfl) rfl ?_
  unfold fX12_cancel
  refine xg_aload_n dX12_cancel_0 (Eq.refl 1) rfl ?_
  refine xg_aload_n dX12_cancel_1 (Eq.refl 2) rfl ?_
  refine xg_iload_n dX12_cancel_2 (Eq.refl 3) rfl ?_
  refine xg_callV_Z (kc := 0) (ks := 0) (st := [.ref x0]) (mX12_isInstruction hl x0 h0 x1 h1 M hM) bX12_isInstruction xcl12 h0 rfl xq_517 rfl (by decide) rfl (Nat.le_of_ble_eq_true rfl) dX12_cancel_3 (Eq.refl 6) rfl (by decide) (by decide) ?_
  intro z1 M2 hz1 hM2
  refine xg_if_ne (tgt := 13) dX12_cancel_6 (Eq.refl 9) (by decide) (B01.r hz1) ?_ ?_
  · refine xg_iconst dX12_cancel_9 (Eq.refl 10) ?_
    refine xg_goto (tgt := 33) dX12_cancel_10 (by decide) ?_
    exact xg_jump (gX12_cancel_33 hl x0 h0 x1 h1 1 (by decide) x0 h0 M2 hM2) (xsb_s (xsb_s (xsb_n (xsb_n xsb_0)))) (by decide) (by decide)
  · refine xg_aload_n dX12_cancel_13 (Eq.refl 14) rfl ?_
    refine xg_getR (k := 0) xcl12 h0 rfl xq_122 rfl (xt_12_0 h0).1 dX12_cancel_14 (Eq.refl 17) ?_
    refine xg_sipush dX12_cancel_17 (Eq.refl 20) (by decide +kernel) ?_
    refine xg_iload_n dX12_cancel_20 (Eq.refl 21) rfl ?_
    refine xg_iadd dX12_cancel_21 (Eq.refl 22) ?_
    refine xg_lald (xt_12_0 h0).2 dX12_cancel_22 (Eq.refl 23) ?_
    refine xg_lconst (z := 1) dX12_cancel_23 (Eq.refl 24) rfl ?_
    refine xg_lif_le (tgt := 32) dX12_cancel_24 (Eq.refl 25) dX12_cancel_25 (Eq.refl 28) (by decide) (hM2.aj (xt_12_0 h0).2) (by decide) ?_ ?_
    · refine xg_iconst dX12_cancel_32 (Eq.refl 33) ?_
      exact xg_jump (gX12_cancel_33 hl x0 h0 x1 h1 0 (by decide) x0 h0 M2 hM2) (xsb_s (xsb_s (xsb_n (xsb_n xsb_0)))) (by decide) (by decide)
    · refine xg_iconst dX12_cancel_28 (Eq.refl 29) ?_
      refine xg_goto (tgt := 33) dX12_cancel_29 (by decide) ?_
      exact xg_jump (gX12_cancel_33 hl x0 h0 x1 h1 2 (by decide) x0 h0 M2 hM2) (xsb_s (xsb_s (xsb_n (xsb_n xsb_0)))) (by decide) (by decide)
abbrev uX12_hold : xU := (RX12, cX12_hold, 2, (some .boolean), [], "hold")
theorem bX12_hold : xYV yX12_hold cX12_hold 2 (some .boolean) 1 := ⟨xq_579, xq_580, xq_5, xq_581, ⟨by decide +kernel, by decide +kernel, by decide +kernel⟩, by decide⟩
theorem gX12_hold_33 {l : Launch} {G : xG} (hl : l.stackTraces = false) (x0 : Nat) (h0 : xOb 12 x0) (x1 : Int) (h1 : R32 x1) (s0 : Int) (hs0 : R32 s0) (s1 : Nat) (hs1 : xOb 12 s1) (M : xM) (hM : xcan M) : Gv l G uX12_hold 3 1 0 0 33 [some (.ref x0), some (iv x1)] [iv s0, .ref s1] M (fX12_hold_33 x0 x1 s0 s1 M) := by
  unfold fX12_hold_33
  refine xg_callV_Z (kc := 0) (ks := 0) (st := []) (mX12_holds hl s1 hs1 s0 hs0 M hM) bX12_holds xcl12 hs1 rfl xq_187 rfl (by decide) rfl (by decide) dX12_hold_33 (Eq.refl 36) rfl (by decide) (by decide) ?_
  intro z1 M2 hz1 hM2
  refine xg_if_eq (tgt := 41) dX12_hold_36 (Eq.refl 39) (by decide) (B01.r hz1) ?_ ?_
  · refine xg_aload_n dX12_hold_41 (Eq.refl 42) rfl ?_
    refine xg_getR (k := 0) xcl12 h0 rfl xq_122 rfl (xt_12_0 h0).1 dX12_hold_42 (Eq.refl 45) ?_
    refine xg_sipush dX12_hold_45 (Eq.refl 48) (by decide +kernel) ?_
    refine xg_iload_n dX12_hold_48 (Eq.refl 49) rfl ?_
    refine xg_iadd dX12_hold_49 (Eq.refl 50) ?_
    refine xg_lconst (z := 1) dX12_hold_50 (Eq.refl 51) rfl ?_
    refine xg_aload_n dX12_hold_51 (Eq.refl 52) rfl ?_
    refine xg_getR (k := 0) xcl12 h0 rfl xq_122 rfl (xt_12_0 h0).1 dX12_hold_52 (Eq.refl 55) ?_
    refine xg_sipush dX12_hold_55 (Eq.refl 58) (by decide +kernel) ?_
    refine xg_iload_n dX12_hold_58 (Eq.refl 59) rfl ?_
    refine xg_iadd dX12_hold_59 (Eq.refl 60) ?_
    refine xg_lald (xt_12_0 h0).2 dX12_hold_60 (Eq.refl 61) ?_
    refine xg_lsub dX12_hold_61 (Eq.refl 62) ?_
    refine xg_last (xt_12_0 h0).2 dX12_hold_62 (Eq.refl 63) hM2 (w64_r _) ?_
    intro M3 hM3
    refine xg_aload_n dX12_hold_63 (Eq.refl 64) rfl ?_
    refine xg_getR (k := 0) xcl12 h0 rfl xq_122 rfl (xt_12_0 h0).1 dX12_hold_64 (Eq.refl 67) ?_
    refine xg_sipush dX12_hold_67 (Eq.refl 70) (by decide +kernel) ?_
    refine xg_iload_n dX12_hold_70 (Eq.refl 71) rfl ?_
    refine xg_iadd dX12_hold_71 (Eq.refl 72) ?_
    refine xg_lald (xt_12_0 h0).2 dX12_hold_72 (Eq.refl 73) ?_
    refine xg_lconst (z := 1) dX12_hold_73 (Eq.refl 74) rfl ?_
    refine xg_lif_ne (tgt := 82) dX12_hold_74 (Eq.refl 75) dX12_hold_75 (Eq.refl 78) (by decide) (hM3.aj (xt_12_0 h0).2) (by decide) ?_ ?_
    · refine xg_iconst dX12_hold_78 (Eq.refl 79) ?_
      refine xg_goto (tgt := 83) dX12_hold_79 (by decide) ?_
      exact xg_zret rfl dX12_hold_83 rfl hM3 (by decide)
    · refine xg_iconst dX12_hold_82 (Eq.refl 83) ?_
      exact xg_zret rfl dX12_hold_83 rfl hM3 (by decide)
  · refine xg_iconst dX12_hold_39 (Eq.refl 40) ?_
    exact xg_zret rfl dX12_hold_40 rfl hM2 (by decide)
theorem mX12_hold {l : Launch} {G : xG} (hl : l.stackTraces = false) (x0 : Nat) (h0 : xOb 12 x0) (x1 : Int) (h1 : R32 x1) (M : xM) (hM : xcan M) : Cm l G yX12_hold cX12_hold 2 (some .boolean) 3 1 0 0 [.ref x0, iv x1] M (fX12_hold x0 x1 M) := by
  refine xcm_of (u := uX12_hold) (ls := [some (.ref x0), some (iv x1)]) 0 hl rfl (by decide +kernel) (Nat.le_of_ble_eq_true rfl) rfl ?_
  unfold fX12_hold
  refine xg_aload_n dX12_hold_0 (Eq.refl 1) rfl ?_
  refine xg_aload_n dX12_hold_1 (Eq.refl 2) rfl ?_
  refine xg_iload_n dX12_hold_2 (Eq.refl 3) rfl ?_
  refine xg_callV_Z (kc := 0) (ks := 0) (st := [.ref x0]) (mX12_isInstruction hl x0 h0 x1 h1 M hM) bX12_isInstruction xcl12 h0 rfl xq_517 rfl (by decide) rfl (Nat.le_of_ble_eq_true rfl) dX12_hold_3 (Eq.refl 6) rfl (by decide) (by decide) ?_
  intro z1 M2 hz1 hM2
  refine xg_if_ne (tgt := 13) dX12_hold_6 (Eq.refl 9) (by decide) (B01.r hz1) ?_ ?_
  · refine xg_iconst dX12_hold_9 (Eq.refl 10) ?_
    refine xg_goto (tgt := 33) dX12_hold_10 (by decide) ?_
    exact xg_jump (gX12_hold_33 hl x0 h0 x1 h1 1 (by decide) x0 h0 M2 hM2) (xsb_s (xsb_s xsb_0)) (by decide) (by decide)
  · refine xg_aload_n dX12_hold_13 (Eq.refl 14) rfl ?_
    refine xg_getR (k := 0) xcl12 h0 rfl xq_122 rfl (xt_12_0 h0).1 dX12_hold_14 (Eq.refl 17) ?_
    refine xg_sipush dX12_hold_17 (Eq.refl 20) (by decide +kernel) ?_
    refine xg_iload_n dX12_hold_20 (Eq.refl 21) rfl ?_
    refine xg_iadd dX12_hold_21 (Eq.refl 22) ?_
    refine xg_lald (xt_12_0 h0).2 dX12_hold_22 (Eq.refl 23) ?_
    refine xg_lconst (z := 1) dX12_hold_23 (Eq.refl 24) rfl ?_
    refine xg_lif_le (tgt := 32) dX12_hold_24 (Eq.refl 25) dX12_hold_25 (Eq.refl 28) (by decide) (hM2.aj (xt_12_0 h0).2) (by decide) ?_ ?_
    · refine xg_iconst dX12_hold_32 (Eq.refl 33) ?_
      exact xg_jump (gX12_hold_33 hl x0 h0 x1 h1 0 (by decide) x0 h0 M2 hM2) (xsb_s (xsb_s xsb_0)) (by decide) (by decide)
    · refine xg_iconst dX12_hold_28 (Eq.refl 29) ?_
      refine xg_goto (tgt := 33) dX12_hold_29 (by decide) ?_
      exact xg_jump (gX12_hold_33 hl x0 h0 x1 h1 2 (by decide) x0 h0 M2 hM2) (xsb_s (xsb_s xsb_0)) (by decide) (by decide)
abbrev uX12_link : xU := (RX12, cX12_link, 8, (some .int), [], "link")
theorem bX12_link : xYV yX12_link cX12_link 8 (some .int) 3 := ⟨xq_604, xq_605, xq_5, xq_606, ⟨by decide +kernel, by decide +kernel, by decide +kernel⟩, by decide⟩
theorem gX12_link_283 {l : Launch} {G : xG} (hl : l.stackTraces = false) (x0 : Nat) (h0 : xOb 12 x0) (x7 : Int) (h7 : R32 x7) (s0 : Int) (hs0 : R64 s0) (s1 : Int) (hs1 : R32 s1) (s2 : Nat) (hs2 : xAn 1 1550 s2) (M : xM) (hM : xcan M) : Gv l G uX12_link 3 0 0 0 283 [some (.ref x0), none, none, none, none, none, none, some (iv x7)] [jv s0, iv s1, .ref s2] M (fX12_link_283 x0 x7 s0 s1 s2 M) := by
  unfold fX12_link_283
  refine xg_last hs2 dX12_link_283 (Eq.refl 284) hM hs0 ?_
  intro M1 hM1
  refine xg_aload_n dX12_link_284 (Eq.refl 285) rfl ?_
  refine xg_getR (k := 0) xcl12 h0 rfl xq_122 rfl (xt_12_0 h0).1 dX12_link_285 (Eq.refl 288) ?_
  refine xg_sipush dX12_link_288 (Eq.refl 291) (by decide +kernel) ?_
  refine xg_dup2 dX12_link_291 (Eq.refl 292) rfl rfl ?_
  refine xg_laldk (k := 1544) (xt_12_0 h0).2 dX12_link_292 (Eq.refl 293) rfl (by decide) ?_
  refine xg_lconst (z := 1) dX12_link_293 (Eq.refl 294) rfl ?_
  refine xg_ladd dX12_link_294 (Eq.refl 295) ?_
  refine xg_lastk (k := 1544) (xt_12_0 h0).2 dX12_link_295 (Eq.refl 296) rfl (by decide) hM1 (w64_r _) ?_
  intro M2 hM2
  refine xg_iload dX12_link_296 (Eq.refl 298) rfl ?_
  refine xg_iconst dX12_link_298 (Eq.refl 299) ?_
  refine xg_iadd dX12_link_299 (Eq.refl 300) ?_
  exact xg_iret rfl dX12_link_300 rfl hM2 (w32_r _)
theorem gX12_link_219 {l : Launch} {G : xG} (hl : l.stackTraces = false) (x0 : Nat) (h0 : xOb 12 x0) (x1 : Int) (h1 : R32 x1) (x2 : Int) (h2 : R32 x2) (x3 : Int) (h3 : B01 x3) (s0 : Int) (hs0 : R32 s0) (s1 : Nat) (hs1 : xOb 12 s1) (M : xM) (hM : xcan M) : Gv l G uX12_link 3 0 0 0 219 [some (.ref x0), some (iv x1), some (iv x2), some (iv x3), none, none, none, none] [iv s0, .ref s1] M (fX12_link_219 x0 x1 x2 x3 s0 s1 M) := by
  unfold fX12_link_219
  refine xg_callV_Z (kc := 0) (ks := 0) (st := []) (mX12_holds hl s1 hs1 s0 hs0 M hM) bX12_holds xcl12 hs1 rfl xq_187 rfl (by decide) rfl (by decide) dX12_link_219 (Eq.refl 222) rfl (by decide) (by decide) ?_
  intro z1 M2 hz1 hM2
  refine xg_if_eq (tgt := 227) dX12_link_222 (Eq.refl 225) (by decide) (B01.r hz1) ?_ ?_
  · refine xg_aload_n dX12_link_227 (Eq.refl 228) rfl ?_
    refine xg_getR (k := 0) xcl12 h0 rfl xq_122 rfl (xt_12_0 h0).1 dX12_link_228 (Eq.refl 231) ?_
    refine xg_sipush dX12_link_231 (Eq.refl 234) (by decide +kernel) ?_
    refine xg_laldk (k := 1544) (xt_12_0 h0).2 dX12_link_234 (Eq.refl 235) rfl (by decide) ?_
    refine xg_l2i dX12_link_235 (Eq.refl 236) ?_
    refine xg_istoreL (P := R32) (ls2 := fun y3 => [some (.ref x0), some (iv x1), some (iv x2), some (iv x3), none, none, none, some (iv y3)]) dX12_link_236 (Eq.refl 238) (by decide) (w32_r _) (fun _ => rfl) ?_
    intro y3 hy3
    refine xg_aload_n dX12_link_238 (Eq.refl 239) rfl ?_
    refine xg_getR (k := 0) xcl12 h0 rfl xq_122 rfl (xt_12_0 h0).1 dX12_link_239 (Eq.refl 242) ?_
    refine xg_sipush dX12_link_242 (Eq.refl 245) (by decide +kernel) ?_
    refine xg_iload dX12_link_245 (Eq.refl 247) rfl ?_
    refine xg_iadd dX12_link_247 (Eq.refl 248) ?_
    refine xg_iload_n dX12_link_248 (Eq.refl 249) rfl ?_
    refine xg_i2l dX12_link_249 (Eq.refl 250) h1 ?_
    refine xg_last (xt_12_0 h0).2 dX12_link_250 (Eq.refl 251) hM2 (R32.j h1) ?_
    intro M4 hM4
    refine xg_aload_n dX12_link_251 (Eq.refl 252) rfl ?_
    refine xg_getR (k := 0) xcl12 h0 rfl xq_122 rfl (xt_12_0 h0).1 dX12_link_252 (Eq.refl 255) ?_
    refine xg_sipush dX12_link_255 (Eq.refl 258) (by decide +kernel) ?_
    refine xg_iload dX12_link_258 (Eq.refl 260) rfl ?_
    refine xg_iadd dX12_link_260 (Eq.refl 261) ?_
    refine xg_iload_n dX12_link_261 (Eq.refl 262) rfl ?_
    refine xg_i2l dX12_link_262 (Eq.refl 263) h2 ?_
    refine xg_last (xt_12_0 h0).2 dX12_link_263 (Eq.refl 264) hM4 (R32.j h2) ?_
    intro M5 hM5
    refine xg_aload_n dX12_link_264 (Eq.refl 265) rfl ?_
    refine xg_getR (k := 0) xcl12 h0 rfl xq_122 rfl (xt_12_0 h0).1 dX12_link_265 (Eq.refl 268) ?_
    refine xg_sipush dX12_link_268 (Eq.refl 271) (by decide +kernel) ?_
    refine xg_iload dX12_link_271 (Eq.refl 273) rfl ?_
    refine xg_iadd dX12_link_273 (Eq.refl 274) ?_
    refine xg_iload_n dX12_link_274 (Eq.refl 275) rfl ?_
    refine xg_if_eq (tgt := 282) dX12_link_275 (Eq.refl 278) (by decide) (B01.r h3) ?_ ?_
    · refine xg_lconst (z := 0) dX12_link_282 (Eq.refl 283) rfl ?_
      exact xg_jump (gX12_link_283 hl x0 h0 y3 hy3 0 (by decide) (w32 (910 + y3)) (w32_r _) (xr x0 0) (xt_12_0 h0).2 M5 hM5) (xsb_s (xsb_n (xsb_n (xsb_n (xsb_n (xsb_n (xsb_n (xsb_s xsb_0)))))))) (by decide) (by decide)
    · refine xg_lconst (z := 1) dX12_link_278 (Eq.refl 279) rfl ?_
      refine xg_goto (tgt := 283) dX12_link_279 (by decide) ?_
      exact xg_jump (gX12_link_283 hl x0 h0 y3 hy3 1 (by decide) (w32 (910 + y3)) (w32_r _) (xr x0 0) (xt_12_0 h0).2 M5 hM5) (xsb_s (xsb_n (xsb_n (xsb_n (xsb_n (xsb_n (xsb_n (xsb_s xsb_0)))))))) (by decide) (by decide)
  · refine xg_iconst dX12_link_225 (Eq.refl 226) ?_
    exact xg_iret rfl dX12_link_226 rfl hM2 (by decide)
theorem gX12_link_188 {l : Launch} {G : xG} (hl : l.stackTraces = false) (x0 : Nat) (h0 : xOb 12 x0) (x1 : Int) (h1 : R32 x1) (x2 : Int) (h2 : R32 x2) (x3 : Int) (h3 : B01 x3) (x4 : Int) (h4 : B01 x4) (s0 : Int) (hs0 : B01 s0) (M : xM) (hM : xcan M) : Gv l G uX12_link 3 0 0 0 188 [some (.ref x0), some (iv x1), some (iv x2), some (iv x3), some (iv x4), none, none, none] [iv s0] M (fX12_link_188 x0 x1 x2 x3 x4 s0 M) := by
  unfold fX12_link_188
  refine xg_istore (ls2 := [some (.ref x0), some (iv x1), some (iv x2), some (iv x3), some (iv x4), none, some (iv s0), none]) dX12_link_188 (Eq.refl 190) (by decide) rfl ?_
  refine xg_aload_n dX12_link_190 (Eq.refl 191) rfl ?_
  refine xg_iload dX12_link_191 (Eq.refl 193) rfl ?_
  refine xg_if_ne (tgt := 200) dX12_link_193 (Eq.refl 196) (by decide) (B01.r h4) ?_ ?_
  · refine xg_iconst dX12_link_196 (Eq.refl 197) ?_
    refine xg_goto (tgt := 219) dX12_link_197 (by decide) ?_
    exact xg_jump (gX12_link_219 hl x0 h0 x1 h1 x2 h2 x3 h3 1 (by decide) x0 h0 M hM) (xsb_s (xsb_s (xsb_s (xsb_s (xsb_n (xsb_n (xsb_n (xsb_n xsb_0)))))))) (by decide) (by decide)
  · refine xg_iload_n dX12_link_200 (Eq.refl 201) rfl ?_
    refine xg_iload_n dX12_link_201 (Eq.refl 202) rfl ?_
    refine xg_icmp_ne (tgt := 209) dX12_link_202 (Eq.refl 205) (by decide) h1 h2 ?_ ?_
    · refine xg_iconst dX12_link_205 (Eq.refl 206) ?_
      refine xg_goto (tgt := 219) dX12_link_206 (by decide) ?_
      exact xg_jump (gX12_link_219 hl x0 h0 x1 h1 x2 h2 x3 h3 2 (by decide) x0 h0 M hM) (xsb_s (xsb_s (xsb_s (xsb_s (xsb_n (xsb_n (xsb_n (xsb_n xsb_0)))))))) (by decide) (by decide)
    · refine xg_iload dX12_link_209 (Eq.refl 211) rfl ?_
      refine xg_if_eq (tgt := 218) dX12_link_211 (Eq.refl 214) (by decide) (B01.r hs0) ?_ ?_
      · refine xg_iconst dX12_link_218 (Eq.refl 219) ?_
        exact xg_jump (gX12_link_219 hl x0 h0 x1 h1 x2 h2 x3 h3 0 (by decide) x0 h0 M hM) (xsb_s (xsb_s (xsb_s (xsb_s (xsb_n (xsb_n (xsb_n (xsb_n xsb_0)))))))) (by decide) (by decide)
      · refine xg_iconst dX12_link_214 (Eq.refl 215) ?_
        refine xg_goto (tgt := 219) dX12_link_215 (by decide) ?_
        exact xg_jump (gX12_link_219 hl x0 h0 x1 h1 x2 h2 x3 h3 3 (by decide) x0 h0 M hM) (xsb_s (xsb_s (xsb_s (xsb_s (xsb_n (xsb_n (xsb_n (xsb_n xsb_0)))))))) (by decide) (by decide)
theorem gX12_link_187 {l : Launch} {G : xG} (hl : l.stackTraces = false) (x0 : Nat) (h0 : xOb 12 x0) (x1 : Int) (h1 : R32 x1) (x2 : Int) (h2 : R32 x2) (x3 : Int) (h3 : B01 x3) (x4 : Int) (h4 : B01 x4) (M : xM) (hM : xcan M) : Gv l G uX12_link 3 0 0 0 187 [some (.ref x0), some (iv x1), some (iv x2), some (iv x3), some (iv x4), none, none, none] [] M (fX12_link_187 x0 x1 x2 x3 x4 M) := by
  unfold fX12_link_187
  refine xg_iconst dX12_link_187 (Eq.refl 188) ?_
  exact xg_jump (gX12_link_188 hl x0 h0 x1 h1 x2 h2 x3 h3 x4 h4 0 (by decide) M hM) (xsb_s (xsb_s (xsb_s (xsb_s (xsb_s (xsb_n (xsb_n (xsb_n xsb_0)))))))) (by decide) (by decide)
theorem gX12_link_183 {l : Launch} {G : xG} (hl : l.stackTraces = false) (x0 : Nat) (h0 : xOb 12 x0) (x1 : Int) (h1 : R32 x1) (x2 : Int) (h2 : R32 x2) (x3 : Int) (h3 : B01 x3) (x4 : Int) (h4 : B01 x4) (M : xM) (hM : xcan M) : Gv l G uX12_link 3 0 0 0 183 [some (.ref x0), some (iv x1), some (iv x2), some (iv x3), some (iv x4), none, none, none] [] M (fX12_link_183 x0 x1 x2 x3 x4 M) := by
  unfold fX12_link_183
  refine xg_iconst dX12_link_183 (Eq.refl 184) ?_
  refine xg_goto (tgt := 188) dX12_link_184 (by decide) ?_
  exact xg_jump (gX12_link_188 hl x0 h0 x1 h1 x2 h2 x3 h3 x4 h4 1 (by decide) M hM) (xsb_s (xsb_s (xsb_s (xsb_s (xsb_s (xsb_n (xsb_n (xsb_n xsb_0)))))))) (by decide) (by decide)
theorem gX12_link_119 {l : Launch} {G : xG} (hl : l.stackTraces = false) (rc29 : Int → Int → xM → xO) (x0 : Nat) (h0 : xOb 12 x0) (x1 : Int) (h1 : R32 x1) (x2 : Int) (h2 : R32 x2) (x3 : Int) (h3 : B01 x3) (x4 : Int) (h4 : B01 x4) (x6 : Int) (h6 : R32 x6) (s0 : Int) (hs0 : B01 s0) (s1 : Int) (hs1 : B01 s1) (hr29 : ∀ w5 : Int, B01 w5 → ∀ w6 : Int, R32 w6 → ∀ M : xM, xcan M → Gv l G uX12_link 3 0 0 0 29 [some (.ref x0), some (iv x1), some (iv x2), some (iv x3), some (iv x4), some (iv w5), some (iv w6), none] [] M (rc29 w5 w6 M)) (M : xM) (hM : xcan M) : Gv l G uX12_link 3 0 0 0 119 [some (.ref x0), some (iv x1), some (iv x2), some (iv x3), some (iv x4), none, some (iv x6), none] [iv s0, iv s1] M (fX12_link_119 rc29 x0 x1 x2 x3 x4 x6 s0 s1 M) := by
  unfold fX12_link_119
  refine xg_ior dX12_link_119 (Eq.refl 120) ?_
  refine xg_istore (ls2 := [some (.ref x0), some (iv x1), some (iv x2), some (iv x3), some (iv x4), some (iv (xor32 s1 s0)), some (iv x6), none]) dX12_link_120 (Eq.refl 122) (by decide) rfl ?_
  refine xg_iinc (ls2 := [some (.ref x0), some (iv x1), some (iv x2), some (iv x3), some (iv x4), some (iv (xor32 s1 s0)), some (iv (w32 (x6 + 1))), none]) dX12_link_122 (Eq.refl 125) rfl (by decide) rfl ?_
  refine xg_goto (tgt := 29) dX12_link_125 (by decide) ?_
  exact xg_jump (hr29 (xor32 s1 s0) (xor32_b hs1 hs0) (w32 (x6 + 1)) (w32_r _) M hM) (xsb_s (xsb_s (xsb_s (xsb_s (xsb_s (xsb_s (xsb_s (xsb_n xsb_0)))))))) (by decide) (by decide)
theorem gX12_link_118 {l : Launch} {G : xG} (hl : l.stackTraces = false) (rc29 : Int → Int → xM → xO) (x0 : Nat) (h0 : xOb 12 x0) (x1 : Int) (h1 : R32 x1) (x2 : Int) (h2 : R32 x2) (x3 : Int) (h3 : B01 x3) (x4 : Int) (h4 : B01 x4) (x6 : Int) (h6 : R32 x6) (s0 : Int) (hs0 : B01 s0) (hr29 : ∀ w5 : Int, B01 w5 → ∀ w6 : Int, R32 w6 → ∀ M : xM, xcan M → Gv l G uX12_link 3 0 0 0 29 [some (.ref x0), some (iv x1), some (iv x2), some (iv x3), some (iv x4), some (iv w5), some (iv w6), none] [] M (rc29 w5 w6 M)) (M : xM) (hM : xcan M) : Gv l G uX12_link 3 0 0 0 118 [some (.ref x0), some (iv x1), some (iv x2), some (iv x3), some (iv x4), none, some (iv x6), none] [iv s0] M (fX12_link_118 rc29 x0 x1 x2 x3 x4 x6 s0 M) := by
  unfold fX12_link_118
  refine xg_iconst dX12_link_118 (Eq.refl 119) ?_
  exact xg_jump (gX12_link_119 hl rc29 x0 h0 x1 h1 x2 h2 x3 h3 x4 h4 x6 h6 0 (by decide) s0 hs0 hr29 M hM) (xsb_s (xsb_s (xsb_s (xsb_s (xsb_s (xsb_n (xsb_s (xsb_n xsb_0)))))))) (by decide) (by decide)
theorem gX12_link_114 {l : Launch} {G : xG} (hl : l.stackTraces = false) (rc29 : Int → Int → xM → xO) (x0 : Nat) (h0 : xOb 12 x0) (x1 : Int) (h1 : R32 x1) (x2 : Int) (h2 : R32 x2) (x3 : Int) (h3 : B01 x3) (x4 : Int) (h4 : B01 x4) (x6 : Int) (h6 : R32 x6) (s0 : Int) (hs0 : B01 s0) (hr29 : ∀ w5 : Int, B01 w5 → ∀ w6 : Int, R32 w6 → ∀ M : xM, xcan M → Gv l G uX12_link 3 0 0 0 29 [some (.ref x0), some (iv x1), some (iv x2), some (iv x3), some (iv x4), some (iv w5), some (iv w6), none] [] M (rc29 w5 w6 M)) (M : xM) (hM : xcan M) : Gv l G uX12_link 3 0 0 0 114 [some (.ref x0), some (iv x1), some (iv x2), some (iv x3), some (iv x4), none, some (iv x6), none] [iv s0] M (fX12_link_114 rc29 x0 x1 x2 x3 x4 x6 s0 M) := by
  unfold fX12_link_114
  refine xg_iconst dX12_link_114 (Eq.refl 115) ?_
  refine xg_goto (tgt := 119) dX12_link_115 (by decide) ?_
  exact xg_jump (gX12_link_119 hl rc29 x0 h0 x1 h1 x2 h2 x3 h3 x4 h4 x6 h6 1 (by decide) s0 hs0 hr29 M hM) (xsb_s (xsb_s (xsb_s (xsb_s (xsb_s (xsb_n (xsb_s (xsb_n xsb_0)))))))) (by decide) (by decide)
theorem gX12_link_80 {l : Launch} {G : xG} (hl : l.stackTraces = false) (rc29 : Int → Int → xM → xO) (x0 : Nat) (h0 : xOb 12 x0) (x1 : Int) (h1 : R32 x1) (x2 : Int) (h2 : R32 x2) (x3 : Int) (h3 : B01 x3) (x4 : Int) (h4 : B01 x4) (x6 : Int) (h6 : R32 x6) (s0 : Int) (hs0 : B01 s0) (hr29 : ∀ w5 : Int, B01 w5 → ∀ w6 : Int, R32 w6 → ∀ M : xM, xcan M → Gv l G uX12_link 3 0 0 0 29 [some (.ref x0), some (iv x1), some (iv x2), some (iv x3), some (iv x4), some (iv w5), some (iv w6), none] [] M (rc29 w5 w6 M)) (M : xM) (hM : xcan M) : Gv l G uX12_link 3 0 0 0 80 [some (.ref x0), some (iv x1), some (iv x2), some (iv x3), some (iv x4), none, some (iv x6), none] [iv s0] M (fX12_link_80 rc29 x0 x1 x2 x3 x4 x6 s0 M) := by
  unfold fX12_link_80
  refine xg_aload_n dX12_link_80 (Eq.refl 81) rfl ?_
  refine xg_getR (k := 0) xcl12 h0 rfl xq_122 rfl (xt_12_0 h0).1 dX12_link_81 (Eq.refl 84) ?_
  refine xg_sipush dX12_link_84 (Eq.refl 87) (by decide +kernel) ?_
  refine xg_iload dX12_link_87 (Eq.refl 89) rfl ?_
  refine xg_iadd dX12_link_89 (Eq.refl 90) ?_
  refine xg_lald (xt_12_0 h0).2 dX12_link_90 (Eq.refl 91) ?_
  refine xg_iload_n dX12_link_91 (Eq.refl 92) rfl ?_
  refine xg_i2l dX12_link_92 (Eq.refl 93) h2 ?_
  refine xg_lif_ne (tgt := 118) dX12_link_93 (Eq.refl 94) dX12_link_94 (Eq.refl 97) (by decide) (hM.aj (xt_12_0 h0).2) (R32.j h2) ?_ ?_
  · refine xg_aload_n dX12_link_97 (Eq.refl 98) rfl ?_
    refine xg_getR (k := 0) xcl12 h0 rfl xq_122 rfl (xt_12_0 h0).1 dX12_link_98 (Eq.refl 101) ?_
    refine xg_sipush dX12_link_101 (Eq.refl 104) (by decide +kernel) ?_
    refine xg_iload dX12_link_104 (Eq.refl 106) rfl ?_
    refine xg_iadd dX12_link_106 (Eq.refl 107) ?_
    refine xg_lald (xt_12_0 h0).2 dX12_link_107 (Eq.refl 108) ?_
    refine xg_iload_n dX12_link_108 (Eq.refl 109) rfl ?_
    refine xg_i2l dX12_link_109 (Eq.refl 110) h1 ?_
    refine xg_lif_ne (tgt := 118) dX12_link_110 (Eq.refl 111) dX12_link_111 (Eq.refl 114) (by decide) (hM.aj (xt_12_0 h0).2) (R32.j h1) ?_ ?_
    · exact xg_jump (gX12_link_114 hl rc29 x0 h0 x1 h1 x2 h2 x3 h3 x4 h4 x6 h6 s0 hs0 hr29 M hM) (xsb_s (xsb_s (xsb_s (xsb_s (xsb_s (xsb_n (xsb_s (xsb_n xsb_0)))))))) (by decide) (by decide)
    · exact xg_jump (gX12_link_118 hl rc29 x0 h0 x1 h1 x2 h2 x3 h3 x4 h4 x6 h6 s0 hs0 hr29 M hM) (xsb_s (xsb_s (xsb_s (xsb_s (xsb_s (xsb_n (xsb_s (xsb_n xsb_0)))))))) (by decide) (by decide)
  · exact xg_jump (gX12_link_118 hl rc29 x0 h0 x1 h1 x2 h2 x3 h3 x4 h4 x6 h6 s0 hs0 hr29 M hM) (xsb_s (xsb_s (xsb_s (xsb_s (xsb_s (xsb_n (xsb_s (xsb_n xsb_0)))))))) (by decide) (by decide)
theorem gX12_link_29 {l : Launch} {G : xG} (hl : l.stackTraces = false) (x0 : Nat) (h0 : xOb 12 x0) (x1 : Int) (h1 : R32 x1) (x2 : Int) (h2 : R32 x2) (x3 : Int) (h3 : B01 x3) (x4 : Int) (h4 : B01 x4) : ∀ (n : Nat) (x5 : Int) (_ : B01 x5) (x6 : Int) (_ : R32 x6) (M : xM) (_ : xcan M), Gv l G uX12_link 3 0 0 0 29 [some (.ref x0), some (iv x1), some (iv x2), some (iv x3), some (iv x4), some (iv x5), some (iv x6), none] [] M (fX12_link_29 x0 x1 x2 x3 x4 n x5 x6 M) := by
  intro n; induction n with
  | zero => intro x5 h5 x6 h6 M hM; exact xg_none
  | succ n ih =>
    intro x5 h5 x6 h6 M hM
    rw [fX12_link_29]
    refine xg_iload dX12_link_29 (Eq.refl 31) rfl ?_
    refine xg_i2l dX12_link_31 (Eq.refl 32) h6 ?_
    refine xg_aload_n dX12_link_32 (Eq.refl 33) rfl ?_
    refine xg_getR (k := 0) xcl12 h0 rfl xq_122 rfl (xt_12_0 h0).1 dX12_link_33 (Eq.refl 36) ?_
    refine xg_sipush dX12_link_36 (Eq.refl 39) (by decide +kernel) ?_
    refine xg_laldk (k := 1544) (xt_12_0 h0).2 dX12_link_39 (Eq.refl 40) rfl (by decide) ?_
    refine xg_lif_ge (tgt := 128) dX12_link_40 (Eq.refl 41) dX12_link_41 (Eq.refl 44) (by decide) (R32.j h6) (hM.aj (xt_12_0 h0).2) ?_ ?_
    · refine xg_iload dX12_link_128 (Eq.refl 130) rfl ?_
      refine xg_if_eq (tgt := 187) dX12_link_130 (Eq.refl 133) (by decide) (B01.r h4) ?_ ?_
      · exact xg_jump (gX12_link_187 hl x0 h0 x1 h1 x2 h2 x3 h3 x4 h4 M hM) (xsb_s (xsb_s (xsb_s (xsb_s (xsb_s (xsb_n (xsb_n (xsb_n xsb_0)))))))) (by decide) (by decide)
      · refine xg_aload_n dX12_link_133 (Eq.refl 134) rfl ?_
        refine xg_getR (k := 0) xcl12 h0 rfl xq_122 rfl (xt_12_0 h0).1 dX12_link_134 (Eq.refl 137) ?_
        refine xg_sipush dX12_link_137 (Eq.refl 140) (by decide +kernel) ?_
        refine xg_iload_n dX12_link_140 (Eq.refl 141) rfl ?_
        refine xg_iadd dX12_link_141 (Eq.refl 142) ?_
        refine xg_lald (xt_12_0 h0).2 dX12_link_142 (Eq.refl 143) ?_
        refine xg_lconst (z := 0) dX12_link_143 (Eq.refl 144) rfl ?_
        refine xg_lif_gt (tgt := 183) dX12_link_144 (Eq.refl 145) dX12_link_145 (Eq.refl 148) (by decide) (hM.aj (xt_12_0 h0).2) (by decide) ?_ ?_
        · exact xg_jump (gX12_link_183 hl x0 h0 x1 h1 x2 h2 x3 h3 x4 h4 M hM) (xsb_s (xsb_s (xsb_s (xsb_s (xsb_s (xsb_n (xsb_n (xsb_n xsb_0)))))))) (by decide) (by decide)
        · refine xg_aload_n dX12_link_148 (Eq.refl 149) rfl ?_
          refine xg_getR (k := 0) xcl12 h0 rfl xq_122 rfl (xt_12_0 h0).1 dX12_link_149 (Eq.refl 152) ?_
          refine xg_sipush dX12_link_152 (Eq.refl 155) (by decide +kernel) ?_
          refine xg_iload_n dX12_link_155 (Eq.refl 156) rfl ?_
          refine xg_iadd dX12_link_156 (Eq.refl 157) ?_
          refine xg_lald (xt_12_0 h0).2 dX12_link_157 (Eq.refl 158) ?_
          refine xg_lconst (z := 0) dX12_link_158 (Eq.refl 159) rfl ?_
          refine xg_lif_gt (tgt := 183) dX12_link_159 (Eq.refl 160) dX12_link_160 (Eq.refl 163) (by decide) (hM.aj (xt_12_0 h0).2) (by decide) ?_ ?_
          · exact xg_jump (gX12_link_183 hl x0 h0 x1 h1 x2 h2 x3 h3 x4 h4 M hM) (xsb_s (xsb_s (xsb_s (xsb_s (xsb_s (xsb_n (xsb_n (xsb_n xsb_0)))))))) (by decide) (by decide)
          · refine xg_iload dX12_link_163 (Eq.refl 165) rfl ?_
            refine xg_if_ne (tgt := 183) dX12_link_165 (Eq.refl 168) (by decide) (B01.r h5) ?_ ?_
            · refine xg_aload_n dX12_link_168 (Eq.refl 169) rfl ?_
              refine xg_getR (k := 0) xcl12 h0 rfl xq_122 rfl (xt_12_0 h0).1 dX12_link_169 (Eq.refl 172) ?_
              refine xg_sipush dX12_link_172 (Eq.refl 175) (by decide +kernel) ?_
              refine xg_laldk (k := 1544) (xt_12_0 h0).2 dX12_link_175 (Eq.refl 176) rfl (by decide) ?_
              refine xg_ldc2 (z := 10) xq_178 dX12_link_176 (Eq.refl 179) (by decide +kernel) ?_
              refine xg_lif_ne (tgt := 187) dX12_link_179 (Eq.refl 180) dX12_link_180 (Eq.refl 183) (by decide) (hM.aj (xt_12_0 h0).2) (by decide) ?_ ?_
              · exact xg_jump (gX12_link_183 hl x0 h0 x1 h1 x2 h2 x3 h3 x4 h4 M hM) (xsb_s (xsb_s (xsb_s (xsb_s (xsb_s (xsb_n (xsb_n (xsb_n xsb_0)))))))) (by decide) (by decide)
              · exact xg_jump (gX12_link_187 hl x0 h0 x1 h1 x2 h2 x3 h3 x4 h4 M hM) (xsb_s (xsb_s (xsb_s (xsb_s (xsb_s (xsb_n (xsb_n (xsb_n xsb_0)))))))) (by decide) (by decide)
            · exact xg_jump (gX12_link_183 hl x0 h0 x1 h1 x2 h2 x3 h3 x4 h4 M hM) (xsb_s (xsb_s (xsb_s (xsb_s (xsb_s (xsb_n (xsb_n (xsb_n xsb_0)))))))) (by decide) (by decide)
    · refine xg_iload dX12_link_44 (Eq.refl 46) rfl ?_
      refine xg_aload_n dX12_link_46 (Eq.refl 47) rfl ?_
      refine xg_getR (k := 0) xcl12 h0 rfl xq_122 rfl (xt_12_0 h0).1 dX12_link_47 (Eq.refl 50) ?_
      refine xg_sipush dX12_link_50 (Eq.refl 53) (by decide +kernel) ?_
      refine xg_iload dX12_link_53 (Eq.refl 55) rfl ?_
      refine xg_iadd dX12_link_55 (Eq.refl 56) ?_
      refine xg_lald (xt_12_0 h0).2 dX12_link_56 (Eq.refl 57) ?_
      refine xg_iload_n dX12_link_57 (Eq.refl 58) rfl ?_
      refine xg_i2l dX12_link_58 (Eq.refl 59) h1 ?_
      refine xg_lif_ne (tgt := 80) dX12_link_59 (Eq.refl 60) dX12_link_60 (Eq.refl 63) (by decide) (hM.aj (xt_12_0 h0).2) (R32.j h1) ?_ ?_
      · refine xg_aload_n dX12_link_63 (Eq.refl 64) rfl ?_
        refine xg_getR (k := 0) xcl12 h0 rfl xq_122 rfl (xt_12_0 h0).1 dX12_link_64 (Eq.refl 67) ?_
        refine xg_sipush dX12_link_67 (Eq.refl 70) (by decide +kernel) ?_
        refine xg_iload dX12_link_70 (Eq.refl 72) rfl ?_
        refine xg_iadd dX12_link_72 (Eq.refl 73) ?_
        refine xg_lald (xt_12_0 h0).2 dX12_link_73 (Eq.refl 74) ?_
        refine xg_iload_n dX12_link_74 (Eq.refl 75) rfl ?_
        refine xg_i2l dX12_link_75 (Eq.refl 76) h2 ?_
        refine xg_lif_eq (tgt := 114) dX12_link_76 (Eq.refl 77) dX12_link_77 (Eq.refl 80) (by decide) (hM.aj (xt_12_0 h0).2) (R32.j h2) ?_ ?_
        · exact xg_jump (gX12_link_114 hl (fX12_link_29 x0 x1 x2 x3 x4 n) x0 h0 x1 h1 x2 h2 x3 h3 x4 h4 x6 h6 x5 h5 ih M hM) (xsb_s (xsb_s (xsb_s (xsb_s (xsb_s (xsb_n (xsb_s (xsb_n xsb_0)))))))) (by decide) (by decide)
        · exact xg_jump (gX12_link_80 hl (fX12_link_29 x0 x1 x2 x3 x4 n) x0 h0 x1 h1 x2 h2 x3 h3 x4 h4 x6 h6 x5 h5 ih M hM) (xsb_s (xsb_s (xsb_s (xsb_s (xsb_s (xsb_n (xsb_s (xsb_n xsb_0)))))))) (by decide) (by decide)
      · exact xg_jump (gX12_link_80 hl (fX12_link_29 x0 x1 x2 x3 x4 n) x0 h0 x1 h1 x2 h2 x3 h3 x4 h4 x6 h6 x5 h5 ih M hM) (xsb_s (xsb_s (xsb_s (xsb_s (xsb_s (xsb_n (xsb_s (xsb_n xsb_0)))))))) (by decide) (by decide)
theorem gX12_link_21 {l : Launch} {G : xG} (hl : l.stackTraces = false) (x0 : Nat) (h0 : xOb 12 x0) (x1 : Int) (h1 : R32 x1) (x2 : Int) (h2 : R32 x2) (x3 : Int) (h3 : B01 x3) (s0 : Int) (hs0 : B01 s0) (M : xM) (hM : xcan M) : Gv l G uX12_link 3 0 0 0 21 [some (.ref x0), some (iv x1), some (iv x2), some (iv x3), none, none, none, none] [iv s0] M (fX12_link_21 x0 x1 x2 x3 s0 M) := by
  unfold fX12_link_21
  refine xg_istore (ls2 := [some (.ref x0), some (iv x1), some (iv x2), some (iv x3), some (iv s0), none, none, none]) dX12_link_21 (Eq.refl 23) (by decide) rfl ?_
  refine xg_iconst dX12_link_23 (Eq.refl 24) ?_
  refine xg_istore (ls2 := [some (.ref x0), some (iv x1), some (iv x2), some (iv x3), some (iv s0), some (iv 0), none, none]) dX12_link_24 (Eq.refl 26) (by decide) rfl ?_
  refine xg_iconst dX12_link_26 (Eq.refl 27) ?_
  refine xg_istore (ls2 := [some (.ref x0), some (iv x1), some (iv x2), some (iv x3), some (iv s0), some (iv 0), some (iv 0), none]) dX12_link_27 (Eq.refl 29) (by decide) rfl ?_
  exact xg_jump (gX12_link_29 hl x0 h0 x1 h1 x2 h2 x3 h3 s0 hs0 xN 0 (by decide) 0 (by decide) M hM) (xsb_s (xsb_s (xsb_s (xsb_s (xsb_s (xsb_s (xsb_s (xsb_n xsb_0)))))))) (by decide) (by decide)
theorem gX12_link_20 {l : Launch} {G : xG} (hl : l.stackTraces = false) (x0 : Nat) (h0 : xOb 12 x0) (x1 : Int) (h1 : R32 x1) (x2 : Int) (h2 : R32 x2) (x3 : Int) (h3 : B01 x3) (M : xM) (hM : xcan M) : Gv l G uX12_link 3 0 0 0 20 [some (.ref x0), some (iv x1), some (iv x2), some (iv x3), none, none, none, none] [] M (fX12_link_20 x0 x1 x2 x3 M) := by
  unfold fX12_link_20
  refine xg_iconst dX12_link_20 (Eq.refl 21) ?_
  exact xg_jump (gX12_link_21 hl x0 h0 x1 h1 x2 h2 x3 h3 0 (by decide) M hM) (xsb_s (xsb_s (xsb_s (xsb_s (xsb_n (xsb_n (xsb_n (xsb_n xsb_0)))))))) (by decide) (by decide)
theorem mX12_link {l : Launch} {G : xG} (hl : l.stackTraces = false) (x0 : Nat) (h0 : xOb 12 x0) (x1 : Int) (h1 : R32 x1) (x2 : Int) (h2 : R32 x2) (x3 : Int) (h3 : B01 x3) (M : xM) (hM : xcan M) : Cm l G yX12_link cX12_link 8 (some .int) 3 0 0 0 [.ref x0, iv x1, iv x2, iv x3] M (fX12_link x0 x1 x2 x3 M) := by
  refine xcm_of (u := uX12_link) (ls := [some (.ref x0), some (iv x1), some (iv x2), some (iv x3), none, none, none, none]) 4 hl rfl (by decide +kernel) (Nat.le_of_ble_eq_true rfl) rfl ?_
  unfold fX12_link
  refine xg_aload_n dX12_link_0 (Eq.refl 1) rfl ?_
  refine xg_iload_n dX12_link_1 (Eq.refl 2) rfl ?_
  refine xg_callV_Z (kc := 0) (ks := 0) (st := []) (mX12_isTrade hl x0 h0 x1 h1 M hM) bX12_isTrade xcl12 h0 rfl xq_607 rfl (by decide) rfl (by decide) dX12_link_2 (Eq.refl 5) rfl (by decide) (by decide) ?_
  intro z1 M2 hz1 hM2
  refine xg_if_eq (tgt := 20) dX12_link_5 (Eq.refl 8) (by decide) (B01.r hz1) ?_ ?_
  · exact xg_jump (gX12_link_20 hl x0 h0 x1 h1 x2 h2 x3 h3 M2 hM2) (xsb_s (xsb_s (xsb_s (xsb_s (xsb_n (xsb_n (xsb_n (xsb_n xsb_0)))))))) (by decide) (by decide)
  · refine xg_aload_n dX12_link_8 (Eq.refl 9) rfl ?_
    refine xg_iload_n dX12_link_9 (Eq.refl 10) rfl ?_
    refine xg_callV_Z (kc := 0) (ks := 0) (st := []) (mX12_isTrade hl x0 h0 x2 h2 M2 hM2) bX12_isTrade xcl12 h0 rfl xq_607 rfl (by decide) rfl (by decide) dX12_link_10 (Eq.refl 13) rfl (by decide) (by decide) ?_
    intro z3 M4 hz3 hM4
    refine xg_if_eq (tgt := 20) dX12_link_13 (Eq.refl 16) (by decide) (B01.r hz3) ?_ ?_
    · exact xg_jump (gX12_link_20 hl x0 h0 x1 h1 x2 h2 x3 h3 M4 hM4) (xsb_s (xsb_s (xsb_s (xsb_s (xsb_n (xsb_n (xsb_n (xsb_n xsb_0)))))))) (by decide) (by decide)
    · refine xg_iconst dX12_link_16 (Eq.refl 17) ?_
      refine xg_goto (tgt := 21) dX12_link_17 (by decide) ?_
      exact xg_jump (gX12_link_21 hl x0 h0 x1 h1 x2 h2 x3 h3 1 (by decide) M4 hM4) (xsb_s (xsb_s (xsb_s (xsb_s (xsb_n (xsb_n (xsb_n (xsb_n xsb_0)))))))) (by decide) (by decide)
abbrev uX12_due : xU := (RX12, cX12_due, 2, (some .boolean), [], "due")
theorem bX12_due : xYV yX12_due cX12_due 2 (some .boolean) 1 := ⟨xq_823, xq_824, xq_5, xq_825, ⟨by decide +kernel, by decide +kernel, by decide +kernel⟩, by decide⟩
theorem mX12_due {l : Launch} {G : xG} (hl : l.stackTraces = false) (x0 : Nat) (h0 : xOb 12 x0) (x1 : Int) (h1 : R32 x1) (M : xM) (hM : xcan M) : Cm l G yX12_due cX12_due 2 (some .boolean) 1 1 0 0 [.ref x0, iv x1] M (fX12_due x0 x1 M) := by
  refine xcm_of (u := uX12_due) (ls := [some (.ref x0), some (iv x1)]) 0 hl rfl (by decide +kernel) (Nat.le_of_ble_eq_true rfl) rfl ?_
  unfold fX12_due
  refine xg_aload_n dX12_due_0 (Eq.refl 1) rfl ?_
  refine xg_getR (k := 0) xcl12 h0 rfl xq_122 rfl (xt_12_0 h0).1 dX12_due_1 (Eq.refl 4) ?_
  refine xg_sipush dX12_due_4 (Eq.refl 7) (by decide +kernel) ?_
  refine xg_iload_n dX12_due_7 (Eq.refl 8) rfl ?_
  refine xg_iadd dX12_due_8 (Eq.refl 9) ?_
  refine xg_lald (xt_12_0 h0).2 dX12_due_9 (Eq.refl 10) ?_
  refine xg_lconst (z := 0) dX12_due_10 (Eq.refl 11) rfl ?_
  refine xg_lif_ne (tgt := 51) dX12_due_11 (Eq.refl 12) dX12_due_12 (Eq.refl 15) (by decide) (hM.aj (xt_12_0 h0).2) (by decide) ?_ ?_
  · refine xg_aload_n dX12_due_15 (Eq.refl 16) rfl ?_
    refine xg_getR (k := 0) xcl12 h0 rfl xq_122 rfl (xt_12_0 h0).1 dX12_due_16 (Eq.refl 19) ?_
    refine xg_sipush dX12_due_19 (Eq.refl 22) (by decide +kernel) ?_
    refine xg_aload_n dX12_due_22 (Eq.refl 23) rfl ?_
    refine xg_getR (k := 0) xcl12 h0 rfl xq_122 rfl (xt_12_0 h0).1 dX12_due_23 (Eq.refl 26) ?_
    refine xg_sipush dX12_due_26 (Eq.refl 29) (by decide +kernel) ?_
    refine xg_iload_n dX12_due_29 (Eq.refl 30) rfl ?_
    refine xg_iadd dX12_due_30 (Eq.refl 31) ?_
    refine xg_lald (xt_12_0 h0).2 dX12_due_31 (Eq.refl 32) ?_
    refine xg_l2i dX12_due_32 (Eq.refl 33) ?_
    refine xg_iadd dX12_due_33 (Eq.refl 34) ?_
    refine xg_lald (xt_12_0 h0).2 dX12_due_34 (Eq.refl 35) ?_
    refine xg_aload_n dX12_due_35 (Eq.refl 36) rfl ?_
    refine xg_getR (k := 0) xcl12 h0 rfl xq_122 rfl (xt_12_0 h0).1 dX12_due_36 (Eq.refl 39) ?_
    refine xg_sipush dX12_due_39 (Eq.refl 42) (by decide +kernel) ?_
    refine xg_laldk (k := 1547) (xt_12_0 h0).2 dX12_due_42 (Eq.refl 43) rfl (by decide) ?_
    refine xg_lif_gt (tgt := 51) dX12_due_43 (Eq.refl 44) dX12_due_44 (Eq.refl 47) (by decide) (hM.aj (xt_12_0 h0).2) (hM.aj (xt_12_0 h0).2) ?_ ?_
    · refine xg_iconst dX12_due_51 (Eq.refl 52) ?_
      exact xg_zret rfl dX12_due_52 rfl hM (by decide)
    · refine xg_iconst dX12_due_47 (Eq.refl 48) ?_
      refine xg_goto (tgt := 52) dX12_due_48 (by decide) ?_
      exact xg_zret rfl dX12_due_52 rfl hM (by decide)
  · refine xg_iconst dX12_due_51 (Eq.refl 52) ?_
    exact xg_zret rfl dX12_due_52 rfl hM (by decide)
abbrev uX12_heldUp : xU := (RX12, cX12_heldUp, 2, (some .boolean), [], "heldUp")
theorem bX12_heldUp : xYV yX12_heldUp cX12_heldUp 2 (some .boolean) 1 := ⟨xq_827, xq_828, xq_5, xq_829, ⟨by decide +kernel, by decide +kernel, by decide +kernel⟩, by decide⟩
theorem gX12_heldUp_50 {l : Launch} {G : xG} (hl : l.stackTraces = false) (M : xM) (hM : xcan M) : Gv l G uX12_heldUp 1 1 0 0 50 [none, none] [] M (fX12_heldUp_50 M) := by
  unfold fX12_heldUp_50
  refine xg_iconst dX12_heldUp_50 (Eq.refl 51) ?_
  refine xg_goto (tgt := 55) dX12_heldUp_51 (by decide) ?_
  exact xg_zret rfl dX12_heldUp_55 rfl hM (by decide)
theorem mX12_heldUp {l : Launch} {G : xG} (hl : l.stackTraces = false) (x0 : Nat) (h0 : xOb 12 x0) (x1 : Int) (h1 : R32 x1) (M : xM) (hM : xcan M) : Cm l G yX12_heldUp cX12_heldUp 2 (some .boolean) 1 1 0 0 [.ref x0, iv x1] M (fX12_heldUp x0 x1 M) := by
  refine xcm_of (u := uX12_heldUp) (ls := [some (.ref x0), some (iv x1)]) 0 hl rfl (by decide +kernel) (Nat.le_of_ble_eq_true rfl) rfl ?_
  unfold fX12_heldUp
  refine xg_aload_n dX12_heldUp_0 (Eq.refl 1) rfl ?_
  refine xg_getR (k := 0) xcl12 h0 rfl xq_122 rfl (xt_12_0 h0).1 dX12_heldUp_1 (Eq.refl 4) ?_
  refine xg_sipush dX12_heldUp_4 (Eq.refl 7) (by decide +kernel) ?_
  refine xg_aload_n dX12_heldUp_7 (Eq.refl 8) rfl ?_
  refine xg_getR (k := 0) xcl12 h0 rfl xq_122 rfl (xt_12_0 h0).1 dX12_heldUp_8 (Eq.refl 11) ?_
  refine xg_sipush dX12_heldUp_11 (Eq.refl 14) (by decide +kernel) ?_
  refine xg_iload_n dX12_heldUp_14 (Eq.refl 15) rfl ?_
  refine xg_iadd dX12_heldUp_15 (Eq.refl 16) ?_
  refine xg_lald (xt_12_0 h0).2 dX12_heldUp_16 (Eq.refl 17) ?_
  refine xg_l2i dX12_heldUp_17 (Eq.refl 18) ?_
  refine xg_iadd dX12_heldUp_18 (Eq.refl 19) ?_
  refine xg_lald (xt_12_0 h0).2 dX12_heldUp_19 (Eq.refl 20) ?_
  refine xg_lconst (z := 1) dX12_heldUp_20 (Eq.refl 21) rfl ?_
  refine xg_lif_eq (tgt := 50) dX12_heldUp_21 (Eq.refl 22) dX12_heldUp_22 (Eq.refl 25) (by decide) (hM.aj (xt_12_0 h0).2) (by decide) ?_ ?_
  · exact xg_jump (gX12_heldUp_50 hl M hM) (xsb_n (xsb_n xsb_0)) (by decide) (by decide)
  · refine xg_aload_n dX12_heldUp_25 (Eq.refl 26) rfl ?_
    refine xg_getR (k := 0) xcl12 h0 rfl xq_122 rfl (xt_12_0 h0).1 dX12_heldUp_26 (Eq.refl 29) ?_
    refine xg_sipush dX12_heldUp_29 (Eq.refl 32) (by decide +kernel) ?_
    refine xg_aload_n dX12_heldUp_32 (Eq.refl 33) rfl ?_
    refine xg_getR (k := 0) xcl12 h0 rfl xq_122 rfl (xt_12_0 h0).1 dX12_heldUp_33 (Eq.refl 36) ?_
    refine xg_sipush dX12_heldUp_36 (Eq.refl 39) (by decide +kernel) ?_
    refine xg_iload_n dX12_heldUp_39 (Eq.refl 40) rfl ?_
    refine xg_iadd dX12_heldUp_40 (Eq.refl 41) ?_
    refine xg_lald (xt_12_0 h0).2 dX12_heldUp_41 (Eq.refl 42) ?_
    refine xg_l2i dX12_heldUp_42 (Eq.refl 43) ?_
    refine xg_iadd dX12_heldUp_43 (Eq.refl 44) ?_
    refine xg_lald (xt_12_0 h0).2 dX12_heldUp_44 (Eq.refl 45) ?_
    refine xg_lconst (z := 1) dX12_heldUp_45 (Eq.refl 46) rfl ?_
    refine xg_lif_ne (tgt := 54) dX12_heldUp_46 (Eq.refl 47) dX12_heldUp_47 (Eq.refl 50) (by decide) (hM.aj (xt_12_0 h0).2) (by decide) ?_ ?_
    · exact xg_jump (gX12_heldUp_50 hl M hM) (xsb_n (xsb_n xsb_0)) (by decide) (by decide)
    · refine xg_iconst dX12_heldUp_54 (Eq.refl 55) ?_
      exact xg_zret rfl dX12_heldUp_55 rfl hM (by decide)
abbrev uX12_linked : xU := (RX12, cX12_linked, 4, (some .boolean), [], "linked")
theorem bX12_linked : xYV yX12_linked cX12_linked 4 (some .boolean) 1 := ⟨xq_883, xq_884, xq_5, xq_885, ⟨by decide +kernel, by decide +kernel, by decide +kernel⟩, by decide⟩
theorem gX12_linked_56 {l : Launch} {G : xG} (hl : l.stackTraces = false) (rc4 : Int → Int → xM → xO) (x0 : Nat) (h0 : xOb 12 x0) (x1 : Int) (h1 : R32 x1) (x3 : Int) (h3 : R32 x3) (s0 : Int) (hs0 : B01 s0) (s1 : Int) (hs1 : B01 s1) (hr4 : ∀ w2 : Int, B01 w2 → ∀ w3 : Int, R32 w3 → ∀ M : xM, xcan M → Gv l G uX12_linked 1 1 0 0 4 [some (.ref x0), some (iv x1), some (iv w2), some (iv w3)] [] M (rc4 w2 w3 M)) (M : xM) (hM : xcan M) : Gv l G uX12_linked 1 1 0 0 56 [some (.ref x0), some (iv x1), none, some (iv x3)] [iv s0, iv s1] M (fX12_linked_56 rc4 x0 x1 x3 s0 s1 M) := by
  unfold fX12_linked_56
  refine xg_ior dX12_linked_56 (Eq.refl 57) ?_
  refine xg_istore_n (ls2 := [some (.ref x0), some (iv x1), some (iv (xor32 s1 s0)), some (iv x3)]) dX12_linked_57 (Eq.refl 58) (by decide) rfl ?_
  refine xg_iinc (ls2 := [some (.ref x0), some (iv x1), some (iv (xor32 s1 s0)), some (iv (w32 (x3 + 1)))]) dX12_linked_58 (Eq.refl 61) rfl (by decide) rfl ?_
  refine xg_goto (tgt := 4) dX12_linked_61 (by decide) ?_
  exact xg_jump (hr4 (xor32 s1 s0) (xor32_b hs1 hs0) (w32 (x3 + 1)) (w32_r _) M hM) (xsb_s (xsb_s (xsb_s (xsb_s xsb_0)))) (by decide) (by decide)
theorem gX12_linked_51 {l : Launch} {G : xG} (hl : l.stackTraces = false) (rc4 : Int → Int → xM → xO) (x0 : Nat) (h0 : xOb 12 x0) (x1 : Int) (h1 : R32 x1) (x3 : Int) (h3 : R32 x3) (s0 : Int) (hs0 : B01 s0) (hr4 : ∀ w2 : Int, B01 w2 → ∀ w3 : Int, R32 w3 → ∀ M : xM, xcan M → Gv l G uX12_linked 1 1 0 0 4 [some (.ref x0), some (iv x1), some (iv w2), some (iv w3)] [] M (rc4 w2 w3 M)) (M : xM) (hM : xcan M) : Gv l G uX12_linked 1 1 0 0 51 [some (.ref x0), some (iv x1), none, some (iv x3)] [iv s0] M (fX12_linked_51 rc4 x0 x1 x3 s0 M) := by
  unfold fX12_linked_51
  refine xg_iconst dX12_linked_51 (Eq.refl 52) ?_
  refine xg_goto (tgt := 56) dX12_linked_52 (by decide) ?_
  exact xg_jump (gX12_linked_56 hl rc4 x0 h0 x1 h1 x3 h3 1 (by decide) s0 hs0 hr4 M hM) (xsb_s (xsb_s (xsb_n (xsb_s xsb_0)))) (by decide) (by decide)
theorem gX12_linked_4 {l : Launch} {G : xG} (hl : l.stackTraces = false) (x0 : Nat) (h0 : xOb 12 x0) (x1 : Int) (h1 : R32 x1) : ∀ (n : Nat) (x2 : Int) (_ : B01 x2) (x3 : Int) (_ : R32 x3) (M : xM) (_ : xcan M), Gv l G uX12_linked 1 1 0 0 4 [some (.ref x0), some (iv x1), some (iv x2), some (iv x3)] [] M (fX12_linked_4 x0 x1 n x2 x3 M) := by
  intro n; induction n with
  | zero => intro x2 h2 x3 h3 M hM; exact xg_none
  | succ n ih =>
    intro x2 h2 x3 h3 M hM
    rw [fX12_linked_4]
    refine xg_iload_n dX12_linked_4 (Eq.refl 5) rfl ?_
    refine xg_i2l dX12_linked_5 (Eq.refl 6) h3 ?_
    refine xg_aload_n dX12_linked_6 (Eq.refl 7) rfl ?_
    refine xg_getR (k := 0) xcl12 h0 rfl xq_122 rfl (xt_12_0 h0).1 dX12_linked_7 (Eq.refl 10) ?_
    refine xg_sipush dX12_linked_10 (Eq.refl 13) (by decide +kernel) ?_
    refine xg_laldk (k := 1544) (xt_12_0 h0).2 dX12_linked_13 (Eq.refl 14) rfl (by decide) ?_
    refine xg_lif_ge (tgt := 64) dX12_linked_14 (Eq.refl 15) dX12_linked_15 (Eq.refl 18) (by decide) (R32.j h3) (hM.aj (xt_12_0 h0).2) ?_ ?_
    · refine xg_iload_n dX12_linked_64 (Eq.refl 65) rfl ?_
      exact xg_zret rfl dX12_linked_65 rfl hM h2
    · refine xg_iload_n dX12_linked_18 (Eq.refl 19) rfl ?_
      refine xg_aload_n dX12_linked_19 (Eq.refl 20) rfl ?_
      refine xg_getR (k := 0) xcl12 h0 rfl xq_122 rfl (xt_12_0 h0).1 dX12_linked_20 (Eq.refl 23) ?_
      refine xg_sipush dX12_linked_23 (Eq.refl 26) (by decide +kernel) ?_
      refine xg_iload_n dX12_linked_26 (Eq.refl 27) rfl ?_
      refine xg_iadd dX12_linked_27 (Eq.refl 28) ?_
      refine xg_lald (xt_12_0 h0).2 dX12_linked_28 (Eq.refl 29) ?_
      refine xg_iload_n dX12_linked_29 (Eq.refl 30) rfl ?_
      refine xg_i2l dX12_linked_30 (Eq.refl 31) h1 ?_
      refine xg_lif_eq (tgt := 51) dX12_linked_31 (Eq.refl 32) dX12_linked_32 (Eq.refl 35) (by decide) (hM.aj (xt_12_0 h0).2) (R32.j h1) ?_ ?_
      · exact xg_jump (gX12_linked_51 hl (fX12_linked_4 x0 x1 n) x0 h0 x1 h1 x3 h3 x2 h2 ih M hM) (xsb_s (xsb_s (xsb_n (xsb_s xsb_0)))) (by decide) (by decide)
      · refine xg_aload_n dX12_linked_35 (Eq.refl 36) rfl ?_
        refine xg_getR (k := 0) xcl12 h0 rfl xq_122 rfl (xt_12_0 h0).1 dX12_linked_36 (Eq.refl 39) ?_
        refine xg_sipush dX12_linked_39 (Eq.refl 42) (by decide +kernel) ?_
        refine xg_iload_n dX12_linked_42 (Eq.refl 43) rfl ?_
        refine xg_iadd dX12_linked_43 (Eq.refl 44) ?_
        refine xg_lald (xt_12_0 h0).2 dX12_linked_44 (Eq.refl 45) ?_
        refine xg_iload_n dX12_linked_45 (Eq.refl 46) rfl ?_
        refine xg_i2l dX12_linked_46 (Eq.refl 47) h1 ?_
        refine xg_lif_ne (tgt := 55) dX12_linked_47 (Eq.refl 48) dX12_linked_48 (Eq.refl 51) (by decide) (hM.aj (xt_12_0 h0).2) (R32.j h1) ?_ ?_
        · exact xg_jump (gX12_linked_51 hl (fX12_linked_4 x0 x1 n) x0 h0 x1 h1 x3 h3 x2 h2 ih M hM) (xsb_s (xsb_s (xsb_n (xsb_s xsb_0)))) (by decide) (by decide)
        · refine xg_iconst dX12_linked_55 (Eq.refl 56) ?_
          exact xg_jump (gX12_linked_56 hl (fX12_linked_4 x0 x1 n) x0 h0 x1 h1 x3 h3 0 (by decide) x2 h2 ih M hM) (xsb_s (xsb_s (xsb_n (xsb_s xsb_0)))) (by decide) (by decide)
theorem mX12_linked {l : Launch} {G : xG} (hl : l.stackTraces = false) (x0 : Nat) (h0 : xOb 12 x0) (x1 : Int) (h1 : R32 x1) (M : xM) (hM : xcan M) : Cm l G yX12_linked cX12_linked 4 (some .boolean) 1 1 0 0 [.ref x0, iv x1] M (fX12_linked x0 x1 M) := by
  refine xcm_of (u := uX12_linked) (ls := [some (.ref x0), some (iv x1), none, none]) 2 hl rfl (by decide +kernel) (Nat.le_of_ble_eq_true rfl) rfl ?_
  unfold fX12_linked
  refine xg_iconst dX12_linked_0 (Eq.refl 1) ?_
  refine xg_istore_n (ls2 := [some (.ref x0), some (iv x1), some (iv 0), none]) dX12_linked_1 (Eq.refl 2) (by decide) rfl ?_
  refine xg_iconst dX12_linked_2 (Eq.refl 3) ?_
  refine xg_istore_n (ls2 := [some (.ref x0), some (iv x1), some (iv 0), some (iv 0)]) dX12_linked_3 (Eq.refl 4) (by decide) rfl ?_
  exact xg_jump (gX12_linked_4 hl x0 h0 x1 h1 xN 0 (by decide) 0 (by decide) M hM) (xsb_s (xsb_s (xsb_s (xsb_s xsb_0)))) (by decide) (by decide)
abbrev uX12_candidates : xU := (RX12, cX12_candidates, 4, none, [], "candidates")
theorem bX12_candidates : xYV yX12_candidates cX12_candidates 4 none 0 := ⟨xq_819, xq_820, xq_5, xq_821, ⟨by decide +kernel, by decide +kernel, by decide +kernel⟩, by decide⟩
theorem gX12_candidates_161 {l : Launch} {G : xG} (hl : l.stackTraces = false) (rc73 : Int → Int → xM → xO) (x0 : Nat) (h0 : xOb 12 x0) (x2 : Int) (h2 : R32 x2) (s0 : Int) (hs0 : R32 s0) (hr73 : ∀ w1 : Int, R32 w1 → ∀ w2 : Int, R32 w2 → ∀ M : xM, xcan M → Gv l G uX12_candidates 2 3 0 0 73 [some (.ref x0), some (iv w1), some (iv w2), none] [] M (rc73 w1 w2 M)) (M : xM) (hM : xcan M) : Gv l G uX12_candidates 2 3 0 0 161 [some (.ref x0), none, some (iv x2), none] [iv s0] M (fX12_candidates_161 rc73 x0 x2 s0 M) := by
  unfold fX12_candidates_161
  refine xg_istore_n (ls2 := [some (.ref x0), some (iv s0), some (iv x2), none]) dX12_candidates_161 (Eq.refl 162) (by decide) rfl ?_
  refine xg_iinc (ls2 := [some (.ref x0), some (iv s0), some (iv (w32 (x2 + 1))), none]) dX12_candidates_162 (Eq.refl 165) rfl (by decide) rfl ?_
  refine xg_goto (tgt := 73) dX12_candidates_165 (by decide) ?_
  exact xg_jump (hr73 s0 hs0 (w32 (x2 + 1)) (w32_r _) M hM) (xsb_s (xsb_s (xsb_s (xsb_n xsb_0)))) (by decide) (by decide)
theorem gX12_candidates_151 {l : Launch} {G : xG} (hl : l.stackTraces = false) (rc73 : Int → Int → xM → xO) (x0 : Nat) (h0 : xOb 12 x0) (x1 : Int) (h1 : R32 x1) (x2 : Int) (h2 : R32 x2) (s0 : Int) (hs0 : B01 s0) (hr73 : ∀ w1 : Int, R32 w1 → ∀ w2 : Int, R32 w2 → ∀ M : xM, xcan M → Gv l G uX12_candidates 2 3 0 0 73 [some (.ref x0), some (iv w1), some (iv w2), none] [] M (rc73 w1 w2 M)) (M : xM) (hM : xcan M) : Gv l G uX12_candidates 2 3 0 0 151 [some (.ref x0), some (iv x1), some (iv x2), none] [iv s0] M (fX12_candidates_151 rc73 x0 x1 x2 s0 M) := by
  unfold fX12_candidates_151
  refine xg_istore_n (ls2 := [some (.ref x0), some (iv x1), some (iv x2), some (iv s0)]) dX12_candidates_151 (Eq.refl 152) (by decide) rfl ?_
  refine xg_iload_n dX12_candidates_152 (Eq.refl 153) rfl ?_
  refine xg_if_eq (tgt := 160) dX12_candidates_153 (Eq.refl 156) (by decide) (B01.r hs0) ?_ ?_
  · refine xg_iload_n dX12_candidates_160 (Eq.refl 161) rfl ?_
    exact xg_jump (gX12_candidates_161 hl rc73 x0 h0 x2 h2 x1 h1 hr73 M hM) (xsb_s (xsb_n (xsb_s (xsb_n xsb_0)))) (by decide) (by decide)
  · refine xg_iload_n dX12_candidates_156 (Eq.refl 157) rfl ?_
    refine xg_goto (tgt := 161) dX12_candidates_157 (by decide) ?_
    exact xg_jump (gX12_candidates_161 hl rc73 x0 h0 x2 h2 x2 h2 hr73 M hM) (xsb_s (xsb_n (xsb_s (xsb_n xsb_0)))) (by decide) (by decide)
theorem gX12_candidates_150 {l : Launch} {G : xG} (hl : l.stackTraces = false) (rc73 : Int → Int → xM → xO) (x0 : Nat) (h0 : xOb 12 x0) (x1 : Int) (h1 : R32 x1) (x2 : Int) (h2 : R32 x2) (hr73 : ∀ w1 : Int, R32 w1 → ∀ w2 : Int, R32 w2 → ∀ M : xM, xcan M → Gv l G uX12_candidates 2 3 0 0 73 [some (.ref x0), some (iv w1), some (iv w2), none] [] M (rc73 w1 w2 M)) (M : xM) (hM : xcan M) : Gv l G uX12_candidates 2 3 0 0 150 [some (.ref x0), some (iv x1), some (iv x2), none] [] M (fX12_candidates_150 rc73 x0 x1 x2 M) := by
  unfold fX12_candidates_150
  refine xg_iconst dX12_candidates_150 (Eq.refl 151) ?_
  exact xg_jump (gX12_candidates_151 hl rc73 x0 h0 x1 h1 x2 h2 0 (by decide) hr73 M hM) (xsb_s (xsb_s (xsb_s (xsb_n xsb_0)))) (by decide) (by decide)
theorem gX12_candidates_146 {l : Launch} {G : xG} (hl : l.stackTraces = false) (rc73 : Int → Int → xM → xO) (x0 : Nat) (h0 : xOb 12 x0) (x1 : Int) (h1 : R32 x1) (x2 : Int) (h2 : R32 x2) (hr73 : ∀ w1 : Int, R32 w1 → ∀ w2 : Int, R32 w2 → ∀ M : xM, xcan M → Gv l G uX12_candidates 2 3 0 0 73 [some (.ref x0), some (iv w1), some (iv w2), none] [] M (rc73 w1 w2 M)) (M : xM) (hM : xcan M) : Gv l G uX12_candidates 2 3 0 0 146 [some (.ref x0), some (iv x1), some (iv x2), none] [] M (fX12_candidates_146 rc73 x0 x1 x2 M) := by
  unfold fX12_candidates_146
  refine xg_iconst dX12_candidates_146 (Eq.refl 147) ?_
  refine xg_goto (tgt := 151) dX12_candidates_147 (by decide) ?_
  exact xg_jump (gX12_candidates_151 hl rc73 x0 h0 x1 h1 x2 h2 1 (by decide) hr73 M hM) (xsb_s (xsb_s (xsb_s (xsb_n xsb_0)))) (by decide) (by decide)
theorem gX12_candidates_73 {l : Launch} {G : xG} (hl : l.stackTraces = false) (rc56 : Int → xM → xO) (x0 : Nat) (h0 : xOb 12 x0) (hr56 : ∀ w1 : Int, R32 w1 → ∀ M : xM, xcan M → Gv l G uX12_candidates 2 3 0 0 56 [some (.ref x0), some (iv w1), none, none] [] M (rc56 w1 M)) : ∀ (n : Nat) (x1 : Int) (_ : R32 x1) (x2 : Int) (_ : R32 x2) (M : xM) (_ : xcan M), Gv l G uX12_candidates 2 3 0 0 73 [some (.ref x0), some (iv x1), some (iv x2), none] [] M (fX12_candidates_73 rc56 x0 n x1 x2 M) := by
  intro n; induction n with
  | zero => intro x1 h1 x2 h2 M hM; exact xg_none
  | succ n ih =>
    intro x1 h1 x2 h2 M hM
    rw [fX12_candidates_73]
    refine xg_iload_n dX12_candidates_73 (Eq.refl 74) rfl ?_
    refine xg_i2l dX12_candidates_74 (Eq.refl 75) h2 ?_
    refine xg_aload_n dX12_candidates_75 (Eq.refl 76) rfl ?_
    refine xg_getR (k := 0) xcl12 h0 rfl xq_122 rfl (xt_12_0 h0).1 dX12_candidates_76 (Eq.refl 79) ?_
    refine xg_sipush dX12_candidates_79 (Eq.refl 82) (by decide +kernel) ?_
    refine xg_laldk (k := 1543) (xt_12_0 h0).2 dX12_candidates_82 (Eq.refl 83) rfl (by decide) ?_
    refine xg_lif_ge (tgt := 168) dX12_candidates_83 (Eq.refl 84) dX12_candidates_84 (Eq.refl 87) (by decide) (R32.j h2) (hM.aj (xt_12_0 h0).2) ?_ ?_
    · refine xg_iload_n dX12_candidates_168 (Eq.refl 169) rfl ?_
      refine xg_if_lt (tgt := 56) dX12_candidates_169 (Eq.refl 172) (by decide) h1 ?_ ?_
      · exact xg_jump (hr56 x1 h1 M hM) (xsb_s (xsb_s (xsb_n (xsb_n xsb_0)))) (by decide) (by decide)
      · refine xg_aload_n dX12_candidates_172 (Eq.refl 173) rfl ?_
        refine xg_getR (k := 6) xcl12 h0 rfl xq_126 rfl (xt_12_6 h0).1 dX12_candidates_173 (Eq.refl 176) ?_
        refine xg_iload_n dX12_candidates_176 (Eq.refl 177) rfl ?_
        refine xg_iconst dX12_candidates_177 (Eq.refl 178) ?_
        refine xg_iast (xt_12_6 h0).2 dX12_candidates_178 (Eq.refl 179) hM (by decide) ?_
        intro M1 hM1
        refine xg_aload_n dX12_candidates_179 (Eq.refl 180) rfl ?_
        refine xg_getR (k := 4) xcl12 h0 rfl xq_125 rfl (xt_12_4 h0).1 dX12_candidates_180 (Eq.refl 183) ?_
        refine xg_aload_n dX12_candidates_183 (Eq.refl 184) rfl ?_
        refine xg_getI (k := 5) xcl12 h0 rfl xq_813 rfl dX12_candidates_184 (Eq.refl 187) ?_
        refine xg_iload_n dX12_candidates_187 (Eq.refl 188) rfl ?_
        refine xg_iast (xt_12_4 h0).2 dX12_candidates_188 (Eq.refl 189) hM1 h1 ?_
        intro M2 hM2
        refine xg_aload_n dX12_candidates_189 (Eq.refl 190) rfl ?_
        refine xg_dup dX12_candidates_190 (Eq.refl 191) rfl ?_
        refine xg_getI (k := 5) xcl12 h0 rfl xq_813 rfl dX12_candidates_191 (Eq.refl 194) ?_
        refine xg_iconst dX12_candidates_194 (Eq.refl 195) ?_
        refine xg_iadd dX12_candidates_195 (Eq.refl 196) ?_
        refine xg_putI (k := 5) xcl12 h0 rfl xq_813 rfl (by decide +kernel) dX12_candidates_196 (Eq.refl 199) rfl hM2 (w32_r _) ?_
        intro M3 hM3
        refine xg_goto (tgt := 56) dX12_candidates_199 (by decide) ?_
        exact xg_jump (hr56 x1 h1 M3 hM3) (xsb_s (xsb_s (xsb_n (xsb_n xsb_0)))) (by decide) (by decide)
    · refine xg_aload_n dX12_candidates_87 (Eq.refl 88) rfl ?_
      refine xg_getR (k := 6) xcl12 h0 rfl xq_126 rfl (xt_12_6 h0).1 dX12_candidates_88 (Eq.refl 91) ?_
      refine xg_iload_n dX12_candidates_91 (Eq.refl 92) rfl ?_
      refine xg_iald (xt_12_6 h0).2 dX12_candidates_92 (Eq.refl 93) ?_
      refine xg_if_ne (tgt := 150) dX12_candidates_93 (Eq.refl 96) (by decide) (hM.ai (xt_12_6 h0).2) ?_ ?_
      · refine xg_iload_n dX12_candidates_96 (Eq.refl 97) rfl ?_
        refine xg_if_lt (tgt := 146) dX12_candidates_97 (Eq.refl 100) (by decide) h1 ?_ ?_
        · exact xg_jump (gX12_candidates_146 hl (fX12_candidates_73 rc56 x0 n) x0 h0 x1 h1 x2 h2 ih M hM) (xsb_s (xsb_s (xsb_s (xsb_n xsb_0)))) (by decide) (by decide)
        · refine xg_aload_n dX12_candidates_100 (Eq.refl 101) rfl ?_
          refine xg_getR (k := 0) xcl12 h0 rfl xq_122 rfl (xt_12_0 h0).1 dX12_candidates_101 (Eq.refl 104) ?_
          refine xg_sipush dX12_candidates_104 (Eq.refl 107) (by decide +kernel) ?_
          refine xg_iload_n dX12_candidates_107 (Eq.refl 108) rfl ?_
          refine xg_iadd dX12_candidates_108 (Eq.refl 109) ?_
          refine xg_lald (xt_12_0 h0).2 dX12_candidates_109 (Eq.refl 110) ?_
          refine xg_aload_n dX12_candidates_110 (Eq.refl 111) rfl ?_
          refine xg_getR (k := 0) xcl12 h0 rfl xq_122 rfl (xt_12_0 h0).1 dX12_candidates_111 (Eq.refl 114) ?_
          refine xg_sipush dX12_candidates_114 (Eq.refl 117) (by decide +kernel) ?_
          refine xg_iload_n dX12_candidates_117 (Eq.refl 118) rfl ?_
          refine xg_iadd dX12_candidates_118 (Eq.refl 119) ?_
          refine xg_lald (xt_12_0 h0).2 dX12_candidates_119 (Eq.refl 120) ?_
          refine xg_ladd dX12_candidates_120 (Eq.refl 121) ?_
          refine xg_aload_n dX12_candidates_121 (Eq.refl 122) rfl ?_
          refine xg_getR (k := 0) xcl12 h0 rfl xq_122 rfl (xt_12_0 h0).1 dX12_candidates_122 (Eq.refl 125) ?_
          refine xg_sipush dX12_candidates_125 (Eq.refl 128) (by decide +kernel) ?_
          refine xg_iload_n dX12_candidates_128 (Eq.refl 129) rfl ?_
          refine xg_iadd dX12_candidates_129 (Eq.refl 130) ?_
          refine xg_lald (xt_12_0 h0).2 dX12_candidates_130 (Eq.refl 131) ?_
          refine xg_aload_n dX12_candidates_131 (Eq.refl 132) rfl ?_
          refine xg_getR (k := 0) xcl12 h0 rfl xq_122 rfl (xt_12_0 h0).1 dX12_candidates_132 (Eq.refl 135) ?_
          refine xg_sipush dX12_candidates_135 (Eq.refl 138) (by decide +kernel) ?_
          refine xg_iload_n dX12_candidates_138 (Eq.refl 139) rfl ?_
          refine xg_iadd dX12_candidates_139 (Eq.refl 140) ?_
          refine xg_lald (xt_12_0 h0).2 dX12_candidates_140 (Eq.refl 141) ?_
          refine xg_ladd dX12_candidates_141 (Eq.refl 142) ?_
          refine xg_lif_le (tgt := 150) dX12_candidates_142 (Eq.refl 143) dX12_candidates_143 (Eq.refl 146) (by decide) (w64_r _) (w64_r _) ?_ ?_
          · exact xg_jump (gX12_candidates_150 hl (fX12_candidates_73 rc56 x0 n) x0 h0 x1 h1 x2 h2 ih M hM) (xsb_s (xsb_s (xsb_s (xsb_n xsb_0)))) (by decide) (by decide)
          · exact xg_jump (gX12_candidates_146 hl (fX12_candidates_73 rc56 x0 n) x0 h0 x1 h1 x2 h2 ih M hM) (xsb_s (xsb_s (xsb_s (xsb_n xsb_0)))) (by decide) (by decide)
      · exact xg_jump (gX12_candidates_150 hl (fX12_candidates_73 rc56 x0 n) x0 h0 x1 h1 x2 h2 ih M hM) (xsb_s (xsb_s (xsb_s (xsb_n xsb_0)))) (by decide) (by decide)
theorem gX12_candidates_56 {l : Launch} {G : xG} (hl : l.stackTraces = false) (x0 : Nat) (h0 : xOb 12 x0) : ∀ (n : Nat) (x1 : Int) (_ : R32 x1) (M : xM) (_ : xcan M), Gv l G uX12_candidates 2 3 0 0 56 [some (.ref x0), some (iv x1), none, none] [] M (fX12_candidates_56 x0 n x1 M) := by
  intro n; induction n with
  | zero => intro x1 h1 M hM; exact xg_none
  | succ n ih =>
    intro x1 h1 M hM
    rw [fX12_candidates_56]
    refine xg_iload_n dX12_candidates_56 (Eq.refl 57) rfl ?_
    refine xg_if_lt (tgt := 202) dX12_candidates_57 (Eq.refl 60) (by decide) h1 ?_ ?_
    · exact xg_vret rfl dX12_candidates_202 rfl hM
    · refine xg_aload_n dX12_candidates_60 (Eq.refl 61) rfl ?_
      refine xg_getI (k := 5) xcl12 h0 rfl xq_813 rfl dX12_candidates_61 (Eq.refl 64) ?_
      refine xg_bipush dX12_candidates_64 (Eq.refl 66) (by decide +kernel) ?_
      refine xg_icmp_ge (tgt := 202) dX12_candidates_66 (Eq.refl 69) (by decide) (hM.I h0 rfl) (by decide) ?_ ?_
      · exact xg_vret rfl dX12_candidates_202 rfl hM
      · refine xg_iconst dX12_candidates_69 (Eq.refl 70) ?_
        refine xg_istore_n (ls2 := [some (.ref x0), some (iv (-1)), none, none]) dX12_candidates_70 (Eq.refl 71) (by decide) rfl ?_
        refine xg_iconst dX12_candidates_71 (Eq.refl 72) ?_
        refine xg_istore_n (ls2 := [some (.ref x0), some (iv (-1)), some (iv 0), none]) dX12_candidates_72 (Eq.refl 73) (by decide) rfl ?_
        exact xg_jump (gX12_candidates_73 hl (fX12_candidates_56 x0 n) x0 h0 ih xN (-1) (by decide) 0 (by decide) M hM) (xsb_s (xsb_s (xsb_s (xsb_n xsb_0)))) (by decide) (by decide)
theorem gX12_candidates_47 {l : Launch} {G : xG} (hl : l.stackTraces = false) (rc7 : Int → xM → xO) (x0 : Nat) (h0 : xOb 12 x0) (x1 : Int) (h1 : R32 x1) (s0 : Int) (hs0 : B01 s0) (s1 : Int) (hs1 : R32 s1) (s2 : Nat) (hs2 : xAn 0 20 s2) (hr7 : ∀ w1 : Int, R32 w1 → ∀ M : xM, xcan M → Gv l G uX12_candidates 2 3 0 0 7 [some (.ref x0), some (iv w1), none, none] [] M (rc7 w1 M)) (M : xM) (hM : xcan M) : Gv l G uX12_candidates 2 3 0 0 47 [some (.ref x0), some (iv x1), none, none] [iv s0, iv s1, .ref s2] M (fX12_candidates_47 rc7 x0 x1 s0 s1 s2 M) := by
  unfold fX12_candidates_47
  refine xg_iast hs2 dX12_candidates_47 (Eq.refl 48) hM (B01.r hs0) ?_
  intro M1 hM1
  refine xg_iinc (ls2 := [some (.ref x0), some (iv (w32 (x1 + 1))), none, none]) dX12_candidates_48 (Eq.refl 51) rfl (by decide) rfl ?_
  refine xg_goto (tgt := 7) dX12_candidates_51 (by decide) ?_
  exact xg_jump (hr7 (w32 (x1 + 1)) (w32_r _) M1 hM1) (xsb_s (xsb_s (xsb_n (xsb_n xsb_0)))) (by decide) (by decide)
theorem gX12_candidates_46 {l : Launch} {G : xG} (hl : l.stackTraces = false) (rc7 : Int → xM → xO) (x0 : Nat) (h0 : xOb 12 x0) (x1 : Int) (h1 : R32 x1) (s0 : Int) (hs0 : R32 s0) (s1 : Nat) (hs1 : xAn 0 20 s1) (hr7 : ∀ w1 : Int, R32 w1 → ∀ M : xM, xcan M → Gv l G uX12_candidates 2 3 0 0 7 [some (.ref x0), some (iv w1), none, none] [] M (rc7 w1 M)) (M : xM) (hM : xcan M) : Gv l G uX12_candidates 2 3 0 0 46 [some (.ref x0), some (iv x1), none, none] [iv s0, .ref s1] M (fX12_candidates_46 rc7 x0 x1 s0 s1 M) := by
  unfold fX12_candidates_46
  refine xg_iconst dX12_candidates_46 (Eq.refl 47) ?_
  exact xg_jump (gX12_candidates_47 hl rc7 x0 h0 x1 h1 1 (by decide) s0 hs0 s1 hs1 hr7 M hM) (xsb_s (xsb_s (xsb_n (xsb_n xsb_0)))) (by decide) (by decide)
theorem gX12_candidates_7 {l : Launch} {G : xG} (hl : l.stackTraces = false) (x0 : Nat) (h0 : xOb 12 x0) : ∀ (n : Nat) (x1 : Int) (_ : R32 x1) (M : xM) (_ : xcan M), Gv l G uX12_candidates 2 3 0 0 7 [some (.ref x0), some (iv x1), none, none] [] M (fX12_candidates_7 x0 n x1 M) := by
  intro n; induction n with
  | zero => intro x1 h1 M hM; exact xg_none
  | succ n ih =>
    intro x1 h1 M hM
    rw [fX12_candidates_7]
    refine xg_iload_n dX12_candidates_7 (Eq.refl 8) rfl ?_
    refine xg_i2l dX12_candidates_8 (Eq.refl 9) h1 ?_
    refine xg_aload_n dX12_candidates_9 (Eq.refl 10) rfl ?_
    refine xg_getR (k := 0) xcl12 h0 rfl xq_122 rfl (xt_12_0 h0).1 dX12_candidates_10 (Eq.refl 13) ?_
    refine xg_sipush dX12_candidates_13 (Eq.refl 16) (by decide +kernel) ?_
    refine xg_laldk (k := 1543) (xt_12_0 h0).2 dX12_candidates_16 (Eq.refl 17) rfl (by decide) ?_
    refine xg_lif_ge (tgt := 54) dX12_candidates_17 (Eq.refl 18) dX12_candidates_18 (Eq.refl 21) (by decide) (R32.j h1) (hM.aj (xt_12_0 h0).2) ?_ ?_
    · refine xg_iconst dX12_candidates_54 (Eq.refl 55) ?_
      refine xg_istore_n (ls2 := [some (.ref x0), some (iv 0), none, none]) dX12_candidates_55 (Eq.refl 56) (by decide) rfl ?_
      exact xg_jump (gX12_candidates_56 hl x0 h0 xN 0 (by decide) M hM) (xsb_s (xsb_s (xsb_n (xsb_n xsb_0)))) (by decide) (by decide)
    · refine xg_aload_n dX12_candidates_21 (Eq.refl 22) rfl ?_
      refine xg_getR (k := 6) xcl12 h0 rfl xq_126 rfl (xt_12_6 h0).1 dX12_candidates_22 (Eq.refl 25) ?_
      refine xg_iload_n dX12_candidates_25 (Eq.refl 26) rfl ?_
      refine xg_aload_n dX12_candidates_26 (Eq.refl 27) rfl ?_
      refine xg_iload_n dX12_candidates_27 (Eq.refl 28) rfl ?_
      refine xg_callV_Z (kc := 0) (ks := 0) (st := [iv x1, .ref (xr x0 6)]) (mX12_due hl x0 h0 x1 h1 M hM) bX12_due xcl12 h0 rfl xq_822 rfl (by decide) rfl (Nat.le_of_ble_eq_true rfl) dX12_candidates_28 (Eq.refl 31) rfl (by decide) (by decide) ?_
      intro z1 M2 hz1 hM2
      refine xg_if_eq (tgt := 46) dX12_candidates_31 (Eq.refl 34) (by decide) (B01.r hz1) ?_ ?_
      · exact xg_jump (gX12_candidates_46 hl (fX12_candidates_7 x0 n) x0 h0 x1 h1 x1 h1 (xr x0 6) (xt_12_6 h0).2 ih M2 hM2) (xsb_s (xsb_s (xsb_n (xsb_n xsb_0)))) (by decide) (by decide)
      · refine xg_aload_n dX12_candidates_34 (Eq.refl 35) rfl ?_
        refine xg_iload_n dX12_candidates_35 (Eq.refl 36) rfl ?_
        refine xg_callV_Z (kc := 0) (ks := 0) (st := [iv x1, .ref (xr x0 6)]) (mX12_heldUp hl x0 h0 x1 h1 M2 hM2) bX12_heldUp xcl12 h0 rfl xq_826 rfl (by decide) rfl (Nat.le_of_ble_eq_true rfl) dX12_candidates_36 (Eq.refl 39) rfl (by decide) (by decide) ?_
        intro z3 M4 hz3 hM4
        refine xg_if_ne (tgt := 46) dX12_candidates_39 (Eq.refl 42) (by decide) (B01.r hz3) ?_ ?_
        · refine xg_iconst dX12_candidates_42 (Eq.refl 43) ?_
          refine xg_goto (tgt := 47) dX12_candidates_43 (by decide) ?_
          exact xg_jump (gX12_candidates_47 hl (fX12_candidates_7 x0 n) x0 h0 x1 h1 0 (by decide) x1 h1 (xr x0 6) (xt_12_6 h0).2 ih M4 hM4) (xsb_s (xsb_s (xsb_n (xsb_n xsb_0)))) (by decide) (by decide)
        · exact xg_jump (gX12_candidates_46 hl (fX12_candidates_7 x0 n) x0 h0 x1 h1 x1 h1 (xr x0 6) (xt_12_6 h0).2 ih M4 hM4) (xsb_s (xsb_s (xsb_n (xsb_n xsb_0)))) (by decide) (by decide)
theorem mX12_candidates {l : Launch} {G : xG} (hl : l.stackTraces = false) (x0 : Nat) (h0 : xOb 12 x0) (M : xM) (hM : xcan M) : Cm l G yX12_candidates cX12_candidates 4 none 2 3 0 0 [.ref x0] M (fX12_candidates x0 M) := by
  refine xcm_of (u := uX12_candidates) (ls := [some (.ref x0), none, none, none]) 3 hl rfl (by decide +kernel) (Nat.le_of_ble_eq_true rfl) rfl ?_
  unfold fX12_candidates
  refine xg_aload_n dX12_candidates_0 (Eq.refl 1) rfl ?_
  refine xg_iconst dX12_candidates_1 (Eq.refl 2) ?_
  refine xg_putI (k := 5) xcl12 h0 rfl xq_813 rfl (by decide +kernel) dX12_candidates_2 (Eq.refl 5) rfl hM (by decide) ?_
  intro M1 hM1
  refine xg_iconst dX12_candidates_5 (Eq.refl 6) ?_
  refine xg_istore_n (ls2 := [some (.ref x0), some (iv 0), none, none]) dX12_candidates_6 (Eq.refl 7) (by decide) rfl ?_
  exact xg_jump (gX12_candidates_7 hl x0 h0 xN 0 (by decide) M1 hM1) (xsb_s (xsb_s (xsb_n (xsb_n xsb_0)))) (by decide) (by decide)
abbrev uX12_move : xU := (RX12, cX12_move, 7, none, [], "move")
theorem bX12_move : xYV yX12_move cX12_move 7 none 3 := ⟨xq_875, xq_876, xq_5, xq_877, ⟨by decide +kernel, by decide +kernel, by decide +kernel⟩, by decide⟩
theorem mX12_move {l : Launch} {G : xG} (hl : l.stackTraces = false) (x0 : Nat) (h0 : xOb 12 x0) (x1 : Int) (h1 : R32 x1) (x2 : Int) (h2 : R64 x2) (x4 : Int) (h4 : R64 x4) (M : xM) (hM : xcan M) : Cm l G yX12_move cX12_move 7 none 2 3 0 0 [.ref x0, iv x1, jv x2, jv x4] M (fX12_move x0 x1 x2 x4 M) := by
  refine xcm_of (u := uX12_move) (ls := [some (.ref x0), some (iv x1), some (jv x2), none, some (jv x4), none, none]) 1 hl rfl (by decide +kernel) (Nat.le_of_ble_eq_true rfl) rfl ?_
  unfold fX12_move
  refine xg_aload_n dX12_move_0 (Eq.refl 1) rfl ?_
  refine xg_iload_n dX12_move_1 (Eq.refl 2) rfl ?_
  refine xg_callV_I (kc := 0) (ks := 0) (st := []) (mX12_paper hl x0 h0 x1 h1 M hM) bX12_paper xcl12 h0 rfl xq_842 rfl (by decide) rfl (by decide) dX12_move_2 (Eq.refl 5) rfl (by decide) (by decide) ?_
  intro z1 M2 hz1 hM2
  refine xg_istore (ls2 := [some (.ref x0), some (iv x1), some (jv x2), none, some (jv x4), none, some (iv z1)]) dX12_move_5 (Eq.refl 7) (by decide) rfl ?_
  refine xg_aload_n dX12_move_7 (Eq.refl 8) rfl ?_
  refine xg_getR (k := 0) xcl12 h0 rfl xq_122 rfl (xt_12_0 h0).1 dX12_move_8 (Eq.refl 11) ?_
  refine xg_bipush dX12_move_11 (Eq.refl 13) (by decide +kernel) ?_
  refine xg_iconst dX12_move_13 (Eq.refl 14) ?_
  refine xg_aload_n dX12_move_14 (Eq.refl 15) rfl ?_
  refine xg_iload_n dX12_move_15 (Eq.refl 16) rfl ?_
  refine xg_callV_I (kc := 0) (ks := 0) (st := [iv 4, iv 100, .ref (xr x0 0)]) (mX12_deliverer hl x0 h0 x1 h1 M2 hM2) bX12_deliverer xcl12 h0 rfl xq_493 rfl (by decide) rfl (Nat.le_of_ble_eq_true rfl) dX12_move_16 (Eq.refl 19) rfl (by decide) (by decide) ?_
  intro z3 M4 hz3 hM4
  refine xg_imul dX12_move_19 (Eq.refl 20) ?_
  refine xg_iadd dX12_move_20 (Eq.refl 21) ?_
  refine xg_iload dX12_move_21 (Eq.refl 23) rfl ?_
  refine xg_iadd dX12_move_23 (Eq.refl 24) ?_
  refine xg_dup2 dX12_move_24 (Eq.refl 25) rfl rfl ?_
  refine xg_lald (xt_12_0 h0).2 dX12_move_25 (Eq.refl 26) ?_
  refine xg_lload_n dX12_move_26 (Eq.refl 27) rfl ?_
  refine xg_lsub dX12_move_27 (Eq.refl 28) ?_
  refine xg_last (xt_12_0 h0).2 dX12_move_28 (Eq.refl 29) hM4 (w64_r _) ?_
  intro M5 hM5
  refine xg_aload_n dX12_move_29 (Eq.refl 30) rfl ?_
  refine xg_getR (k := 0) xcl12 h0 rfl xq_122 rfl (xt_12_0 h0).1 dX12_move_30 (Eq.refl 33) ?_
  refine xg_bipush dX12_move_33 (Eq.refl 35) (by decide +kernel) ?_
  refine xg_iconst dX12_move_35 (Eq.refl 36) ?_
  refine xg_aload_n dX12_move_36 (Eq.refl 37) rfl ?_
  refine xg_iload_n dX12_move_37 (Eq.refl 38) rfl ?_
  refine xg_callV_I (kc := 0) (ks := 0) (st := [iv 4, iv 100, .ref (xr x0 0)]) (mX12_receiver hl x0 h0 x1 h1 M5 hM5) bX12_receiver xcl12 h0 rfl xq_497 rfl (by decide) rfl (Nat.le_of_ble_eq_true rfl) dX12_move_38 (Eq.refl 41) rfl (by decide) (by decide) ?_
  intro z6 M7 hz6 hM7
  refine xg_imul dX12_move_41 (Eq.refl 42) ?_
  refine xg_iadd dX12_move_42 (Eq.refl 43) ?_
  refine xg_iload dX12_move_43 (Eq.refl 45) rfl ?_
  refine xg_iadd dX12_move_45 (Eq.refl 46) ?_
  refine xg_dup2 dX12_move_46 (Eq.refl 47) rfl rfl ?_
  refine xg_lald (xt_12_0 h0).2 dX12_move_47 (Eq.refl 48) ?_
  refine xg_lload_n dX12_move_48 (Eq.refl 49) rfl ?_
  refine xg_ladd dX12_move_49 (Eq.refl 50) ?_
  refine xg_last (xt_12_0 h0).2 dX12_move_50 (Eq.refl 51) hM7 (w64_r _) ?_
  intro M8 hM8
  refine xg_aload_n dX12_move_51 (Eq.refl 52) rfl ?_
  refine xg_getR (k := 0) xcl12 h0 rfl xq_122 rfl (xt_12_0 h0).1 dX12_move_52 (Eq.refl 55) ?_
  refine xg_bipush dX12_move_55 (Eq.refl 57) (by decide +kernel) ?_
  refine xg_aload_n dX12_move_57 (Eq.refl 58) rfl ?_
  refine xg_iload_n dX12_move_58 (Eq.refl 59) rfl ?_
  refine xg_callV_I (kc := 0) (ks := 0) (st := [iv 30, .ref (xr x0 0)]) (mX12_deliverer hl x0 h0 x1 h1 M8 hM8) bX12_deliverer xcl12 h0 rfl xq_493 rfl (by decide) rfl (Nat.le_of_ble_eq_true rfl) dX12_move_59 (Eq.refl 62) rfl (by decide) (by decide) ?_
  intro z9 M10 hz9 hM10
  refine xg_iadd dX12_move_62 (Eq.refl 63) ?_
  refine xg_dup2 dX12_move_63 (Eq.refl 64) rfl rfl ?_
  refine xg_lald (xt_12_0 h0).2 dX12_move_64 (Eq.refl 65) ?_
  refine xg_lload dX12_move_65 (Eq.refl 67) rfl ?_
  refine xg_ladd dX12_move_67 (Eq.refl 68) ?_
  refine xg_last (xt_12_0 h0).2 dX12_move_68 (Eq.refl 69) hM10 (w64_r _) ?_
  intro M11 hM11
  refine xg_aload_n dX12_move_69 (Eq.refl 70) rfl ?_
  refine xg_getR (k := 0) xcl12 h0 rfl xq_122 rfl (xt_12_0 h0).1 dX12_move_70 (Eq.refl 73) ?_
  refine xg_bipush dX12_move_73 (Eq.refl 75) (by decide +kernel) ?_
  refine xg_aload_n dX12_move_75 (Eq.refl 76) rfl ?_
  refine xg_iload_n dX12_move_76 (Eq.refl 77) rfl ?_
  refine xg_callV_I (kc := 0) (ks := 0) (st := [iv 30, .ref (xr x0 0)]) (mX12_receiver hl x0 h0 x1 h1 M11 hM11) bX12_receiver xcl12 h0 rfl xq_497 rfl (by decide) rfl (Nat.le_of_ble_eq_true rfl) dX12_move_77 (Eq.refl 80) rfl (by decide) (by decide) ?_
  intro z12 M13 hz12 hM13
  refine xg_iadd dX12_move_80 (Eq.refl 81) ?_
  refine xg_dup2 dX12_move_81 (Eq.refl 82) rfl rfl ?_
  refine xg_lald (xt_12_0 h0).2 dX12_move_82 (Eq.refl 83) ?_
  refine xg_lload dX12_move_83 (Eq.refl 85) rfl ?_
  refine xg_lsub dX12_move_85 (Eq.refl 86) ?_
  refine xg_last (xt_12_0 h0).2 dX12_move_86 (Eq.refl 87) hM13 (w64_r _) ?_
  intro M14 hM14
  exact xg_vret rfl dX12_move_87 rfl hM14
abbrev uX12_has : xU := (RX12, cX12_has, 5, (some .boolean), [], "has")
theorem bX12_has : xYV yX12_has cX12_has 5 (some .boolean) 2 := ⟨xq_867, xq_868, xq_5, xq_869, ⟨by decide +kernel, by decide +kernel, by decide +kernel⟩, by decide⟩
theorem gX12_has_60 {l : Launch} {G : xG} (hl : l.stackTraces = false) (rc24 : Int → Int → xM → xO) (x0 : Nat) (h0 : xOb 12 x0) (x1 : Int) (h1 : R32 x1) (x2 : Int) (h2 : R32 x2) (x4 : Int) (h4 : R32 x4) (s0 : Int) (hs0 : B01 s0) (s1 : Int) (hs1 : B01 s1) (hr24 : ∀ w3 : Int, B01 w3 → ∀ w4 : Int, R32 w4 → ∀ M : xM, xcan M → Gv l G uX12_has 1 1 0 0 24 [some (.ref x0), some (iv x1), some (iv x2), some (iv w3), some (iv w4)] [] M (rc24 w3 w4 M)) (M : xM) (hM : xcan M) : Gv l G uX12_has 1 1 0 0 60 [some (.ref x0), some (iv x1), some (iv x2), none, some (iv x4)] [iv s0, iv s1] M (fX12_has_60 rc24 x0 x1 x2 x4 s0 s1 M) := by
  unfold fX12_has_60
  refine xg_ior dX12_has_60 (Eq.refl 61) ?_
  refine xg_istore_n (ls2 := [some (.ref x0), some (iv x1), some (iv x2), some (iv (xor32 s1 s0)), some (iv x4)]) dX12_has_61 (Eq.refl 62) (by decide) rfl ?_
  refine xg_iinc (ls2 := [some (.ref x0), some (iv x1), some (iv x2), some (iv (xor32 s1 s0)), some (iv (w32 (x4 + 1)))]) dX12_has_62 (Eq.refl 65) rfl (by decide) rfl ?_
  refine xg_goto (tgt := 24) dX12_has_65 (by decide) ?_
  exact xg_jump (hr24 (xor32 s1 s0) (xor32_b hs1 hs0) (w32 (x4 + 1)) (w32_r _) M hM) (xsb_s (xsb_s (xsb_s (xsb_s (xsb_s xsb_0))))) (by decide) (by decide)
theorem gX12_has_59 {l : Launch} {G : xG} (hl : l.stackTraces = false) (rc24 : Int → Int → xM → xO) (x0 : Nat) (h0 : xOb 12 x0) (x1 : Int) (h1 : R32 x1) (x2 : Int) (h2 : R32 x2) (x4 : Int) (h4 : R32 x4) (s0 : Int) (hs0 : B01 s0) (hr24 : ∀ w3 : Int, B01 w3 → ∀ w4 : Int, R32 w4 → ∀ M : xM, xcan M → Gv l G uX12_has 1 1 0 0 24 [some (.ref x0), some (iv x1), some (iv x2), some (iv w3), some (iv w4)] [] M (rc24 w3 w4 M)) (M : xM) (hM : xcan M) : Gv l G uX12_has 1 1 0 0 59 [some (.ref x0), some (iv x1), some (iv x2), none, some (iv x4)] [iv s0] M (fX12_has_59 rc24 x0 x1 x2 x4 s0 M) := by
  unfold fX12_has_59
  refine xg_iconst dX12_has_59 (Eq.refl 60) ?_
  exact xg_jump (gX12_has_60 hl rc24 x0 h0 x1 h1 x2 h2 x4 h4 0 (by decide) s0 hs0 hr24 M hM) (xsb_s (xsb_s (xsb_s (xsb_n (xsb_s xsb_0))))) (by decide) (by decide)
theorem gX12_has_24 {l : Launch} {G : xG} (hl : l.stackTraces = false) (x0 : Nat) (h0 : xOb 12 x0) (x1 : Int) (h1 : R32 x1) (x2 : Int) (h2 : R32 x2) : ∀ (n : Nat) (x3 : Int) (_ : B01 x3) (x4 : Int) (_ : R32 x4) (M : xM) (_ : xcan M), Gv l G uX12_has 1 1 0 0 24 [some (.ref x0), some (iv x1), some (iv x2), some (iv x3), some (iv x4)] [] M (fX12_has_24 x0 x1 x2 n x3 x4 M) := by
  intro n; induction n with
  | zero => intro x3 h3 x4 h4 M hM; exact xg_none
  | succ n ih =>
    intro x3 h3 x4 h4 M hM
    rw [fX12_has_24]
    refine xg_iload dX12_has_24 (Eq.refl 26) rfl ?_
    refine xg_aload_n dX12_has_26 (Eq.refl 27) rfl ?_
    refine xg_getI (k := 5) xcl12 h0 rfl xq_813 rfl dX12_has_27 (Eq.refl 30) ?_
    refine xg_icmp_ge (tgt := 68) dX12_has_30 (Eq.refl 33) (by decide) h4 (hM.I h0 rfl) ?_ ?_
    · refine xg_iload_n dX12_has_68 (Eq.refl 69) rfl ?_
      exact xg_zret rfl dX12_has_69 rfl hM h3
    · refine xg_iload_n dX12_has_33 (Eq.refl 34) rfl ?_
      refine xg_aload_n dX12_has_34 (Eq.refl 35) rfl ?_
      refine xg_getR (k := 4) xcl12 h0 rfl xq_125 rfl (xt_12_4 h0).1 dX12_has_35 (Eq.refl 38) ?_
      refine xg_iload dX12_has_38 (Eq.refl 40) rfl ?_
      refine xg_iald (xt_12_4 h0).2 dX12_has_40 (Eq.refl 41) ?_
      refine xg_iload_n dX12_has_41 (Eq.refl 42) rfl ?_
      refine xg_icmp_ne (tgt := 59) dX12_has_42 (Eq.refl 45) (by decide) (hM.ai (xt_12_4 h0).2) h2 ?_ ?_
      · refine xg_iload_n dX12_has_45 (Eq.refl 46) rfl ?_
        refine xg_iload dX12_has_46 (Eq.refl 48) rfl ?_
        refine xg_ishr dX12_has_48 (Eq.refl 49) ?_
        refine xg_iconst dX12_has_49 (Eq.refl 50) ?_
        refine xg_iand dX12_has_50 (Eq.refl 51) ?_
        refine xg_iconst dX12_has_51 (Eq.refl 52) ?_
        refine xg_icmp_ne (tgt := 59) dX12_has_52 (Eq.refl 55) (by decide) (xand_r _ _) (by decide) ?_ ?_
        · refine xg_iconst dX12_has_55 (Eq.refl 56) ?_
          refine xg_goto (tgt := 60) dX12_has_56 (by decide) ?_
          exact xg_jump (gX12_has_60 hl (fX12_has_24 x0 x1 x2 n) x0 h0 x1 h1 x2 h2 x4 h4 1 (by decide) x3 h3 ih M hM) (xsb_s (xsb_s (xsb_s (xsb_n (xsb_s xsb_0))))) (by decide) (by decide)
        · exact xg_jump (gX12_has_59 hl (fX12_has_24 x0 x1 x2 n) x0 h0 x1 h1 x2 h2 x4 h4 x3 h3 ih M hM) (xsb_s (xsb_s (xsb_s (xsb_n (xsb_s xsb_0))))) (by decide) (by decide)
      · exact xg_jump (gX12_has_59 hl (fX12_has_24 x0 x1 x2 n) x0 h0 x1 h1 x2 h2 x4 h4 x3 h3 ih M hM) (xsb_s (xsb_s (xsb_s (xsb_n (xsb_s xsb_0))))) (by decide) (by decide)
theorem gX12_has_20 {l : Launch} {G : xG} (hl : l.stackTraces = false) (x0 : Nat) (h0 : xOb 12 x0) (x1 : Int) (h1 : R32 x1) (x2 : Int) (h2 : R32 x2) (s0 : Int) (hs0 : B01 s0) (M : xM) (hM : xcan M) : Gv l G uX12_has 1 1 0 0 20 [some (.ref x0), some (iv x1), some (iv x2), none, none] [iv s0] M (fX12_has_20 x0 x1 x2 s0 M) := by
  unfold fX12_has_20
  refine xg_istore_n (ls2 := [some (.ref x0), some (iv x1), some (iv x2), some (iv s0), none]) dX12_has_20 (Eq.refl 21) (by decide) rfl ?_
  refine xg_iconst dX12_has_21 (Eq.refl 22) ?_
  refine xg_istore (ls2 := [some (.ref x0), some (iv x1), some (iv x2), some (iv s0), some (iv 0)]) dX12_has_22 (Eq.refl 24) (by decide) rfl ?_
  exact xg_jump (gX12_has_24 hl x0 h0 x1 h1 x2 h2 xN s0 hs0 0 (by decide) M hM) (xsb_s (xsb_s (xsb_s (xsb_s (xsb_s xsb_0))))) (by decide) (by decide)
theorem mX12_has {l : Launch} {G : xG} (hl : l.stackTraces = false) (x0 : Nat) (h0 : xOb 12 x0) (x1 : Int) (h1 : R32 x1) (x2 : Int) (h2 : R32 x2) (M : xM) (hM : xcan M) : Cm l G yX12_has cX12_has 5 (some .boolean) 1 1 0 0 [.ref x0, iv x1, iv x2] M (fX12_has x0 x1 x2 M) := by
  refine xcm_of (u := uX12_has) (ls := [some (.ref x0), some (iv x1), some (iv x2), none, none]) 2 hl rfl (by decide +kernel) (Nat.le_of_ble_eq_true rfl) rfl ?_
  unfold fX12_has
  refine xg_aload_n dX12_has_0 (Eq.refl 1) rfl ?_
  refine xg_getR (k := 0) xcl12 h0 rfl xq_122 rfl (xt_12_0 h0).1 dX12_has_1 (Eq.refl 4) ?_
  refine xg_sipush dX12_has_4 (Eq.refl 7) (by decide +kernel) ?_
  refine xg_iload_n dX12_has_7 (Eq.refl 8) rfl ?_
  refine xg_iadd dX12_has_8 (Eq.refl 9) ?_
  refine xg_lald (xt_12_0 h0).2 dX12_has_9 (Eq.refl 10) ?_
  refine xg_lconst (z := 1) dX12_has_10 (Eq.refl 11) rfl ?_
  refine xg_lif_ne (tgt := 19) dX12_has_11 (Eq.refl 12) dX12_has_12 (Eq.refl 15) (by decide) (hM.aj (xt_12_0 h0).2) (by decide) ?_ ?_
  · refine xg_iconst dX12_has_15 (Eq.refl 16) ?_
    refine xg_goto (tgt := 20) dX12_has_16 (by decide) ?_
    exact xg_jump (gX12_has_20 hl x0 h0 x1 h1 x2 h2 1 (by decide) M hM) (xsb_s (xsb_s (xsb_s (xsb_n (xsb_n xsb_0))))) (by decide) (by decide)
  · refine xg_iconst dX12_has_19 (Eq.refl 20) ?_
    exact xg_jump (gX12_has_20 hl x0 h0 x1 h1 x2 h2 0 (by decide) M hM) (xsb_s (xsb_s (xsb_s (xsb_n (xsb_n xsb_0))))) (by decide) (by decide)
abbrev uX12_inSet : xU := (RX12, cX12_inSet, 3, (some .boolean), [], "inSet")
theorem bX12_inSet : xYV yX12_inSet cX12_inSet 3 (some .boolean) 2 := ⟨xq_863, xq_864, xq_5, xq_865, ⟨by decide +kernel, by decide +kernel, by decide +kernel⟩, by decide⟩
theorem mX12_inSet {l : Launch} {G : xG} (hl : l.stackTraces = false) (x0 : Nat) (h0 : xOb 12 x0) (x1 : Int) (h1 : R32 x1) (x2 : Int) (h2 : R32 x2) (M : xM) (hM : xcan M) : Cm l G yX12_inSet cX12_inSet 3 (some .boolean) 2 1 0 0 [.ref x0, iv x1, iv x2] M (fX12_inSet x0 x1 x2 M) := by
  refine xcm_of (u := uX12_inSet) (ls := [some (.ref x0), some (iv x1), some (iv x2)]) 0 hl rfl (by decide +kernel) (Nat.le_of_ble_eq_true rfl) rfl ?_
  unfold fX12_inSet
  refine xg_aload_n dX12_inSet_0 (Eq.refl 1) rfl ?_
  refine xg_getR (k := 0) xcl12 h0 rfl xq_122 rfl (xt_12_0 h0).1 dX12_inSet_1 (Eq.refl 4) ?_
  refine xg_sipush dX12_inSet_4 (Eq.refl 7) (by decide +kernel) ?_
  refine xg_iload_n dX12_inSet_7 (Eq.refl 8) rfl ?_
  refine xg_iadd dX12_inSet_8 (Eq.refl 9) ?_
  refine xg_lald (xt_12_0 h0).2 dX12_inSet_9 (Eq.refl 10) ?_
  refine xg_lconst (z := 1) dX12_inSet_10 (Eq.refl 11) rfl ?_
  refine xg_lif_eq (tgt := 28) dX12_inSet_11 (Eq.refl 12) dX12_inSet_12 (Eq.refl 15) (by decide) (hM.aj (xt_12_0 h0).2) (by decide) ?_ ?_
  · refine xg_iconst dX12_inSet_28 (Eq.refl 29) ?_
    exact xg_zret rfl dX12_inSet_29 rfl hM (by decide)
  · refine xg_aload_n dX12_inSet_15 (Eq.refl 16) rfl ?_
    refine xg_iload_n dX12_inSet_16 (Eq.refl 17) rfl ?_
    refine xg_iload_n dX12_inSet_17 (Eq.refl 18) rfl ?_
    refine xg_callV_Z (kc := 0) (ks := 0) (st := []) (mX12_has hl x0 h0 x1 h1 x2 h2 M hM) bX12_has xcl12 h0 rfl xq_866 rfl (by decide) rfl (by decide) dX12_inSet_18 (Eq.refl 21) rfl (by decide) (by decide) ?_
    intro z1 M2 hz1 hM2
    refine xg_if_eq (tgt := 28) dX12_inSet_21 (Eq.refl 24) (by decide) (B01.r hz1) ?_ ?_
    · refine xg_iconst dX12_inSet_28 (Eq.refl 29) ?_
      exact xg_zret rfl dX12_inSet_29 rfl hM2 (by decide)
    · refine xg_iconst dX12_inSet_24 (Eq.refl 25) ?_
      refine xg_goto (tgt := 29) dX12_inSet_25 (by decide) ?_
      exact xg_zret rfl dX12_inSet_29 rfl hM2 (by decide)
abbrev uX12_keepsLinks : xU := (RX12, cX12_keepsLinks, 6, (some .boolean), [], "keepsLinks")
theorem bX12_keepsLinks : xYV yX12_keepsLinks cX12_keepsLinks 6 (some .boolean) 1 := ⟨xq_859, xq_860, xq_5, xq_861, ⟨by decide +kernel, by decide +kernel, by decide +kernel⟩, by decide⟩
theorem gX12_keepsLinks_113 {l : Launch} {G : xG} (hl : l.stackTraces = false) (rc4 : Int → Int → xM → xO) (x0 : Nat) (h0 : xOb 12 x0) (x1 : Int) (h1 : R32 x1) (x3 : Int) (h3 : R32 x3) (s0 : Int) (hs0 : B01 s0) (s1 : Int) (hs1 : B01 s1) (hr4 : ∀ w2 : Int, B01 w2 → ∀ w3 : Int, R32 w3 → ∀ M : xM, xcan M → Gv l G uX12_keepsLinks 3 1 0 0 4 [some (.ref x0), some (iv x1), some (iv w2), some (iv w3), none, none] [] M (rc4 w2 w3 M)) (M : xM) (hM : xcan M) : Gv l G uX12_keepsLinks 3 1 0 0 113 [some (.ref x0), some (iv x1), none, some (iv x3), none, none] [iv s0, iv s1] M (fX12_keepsLinks_113 rc4 x0 x1 x3 s0 s1 M) := by
  unfold fX12_keepsLinks_113
  refine xg_iand dX12_keepsLinks_113 (Eq.refl 114) ?_
  refine xg_istore_n (ls2 := [some (.ref x0), some (iv x1), some (iv (xand s1 s0)), some (iv x3), none, none]) dX12_keepsLinks_114 (Eq.refl 115) (by decide) rfl ?_
  refine xg_iinc (ls2 := [some (.ref x0), some (iv x1), some (iv (xand s1 s0)), some (iv (w32 (x3 + 1))), none, none]) dX12_keepsLinks_115 (Eq.refl 118) rfl (by decide) rfl ?_
  refine xg_goto (tgt := 4) dX12_keepsLinks_118 (by decide) ?_
  exact xg_jump (hr4 (xand s1 s0) (xand_b hs1 hs0) (w32 (x3 + 1)) (w32_r _) M hM) (xsb_s (xsb_s (xsb_s (xsb_s (xsb_n (xsb_n xsb_0)))))) (by decide) (by decide)
theorem gX12_keepsLinks_108 {l : Launch} {G : xG} (hl : l.stackTraces = false) (rc4 : Int → Int → xM → xO) (x0 : Nat) (h0 : xOb 12 x0) (x1 : Int) (h1 : R32 x1) (x3 : Int) (h3 : R32 x3) (s0 : Int) (hs0 : B01 s0) (hr4 : ∀ w2 : Int, B01 w2 → ∀ w3 : Int, R32 w3 → ∀ M : xM, xcan M → Gv l G uX12_keepsLinks 3 1 0 0 4 [some (.ref x0), some (iv x1), some (iv w2), some (iv w3), none, none] [] M (rc4 w2 w3 M)) (M : xM) (hM : xcan M) : Gv l G uX12_keepsLinks 3 1 0 0 108 [some (.ref x0), some (iv x1), none, some (iv x3), none, none] [iv s0] M (fX12_keepsLinks_108 rc4 x0 x1 x3 s0 M) := by
  unfold fX12_keepsLinks_108
  refine xg_iconst dX12_keepsLinks_108 (Eq.refl 109) ?_
  refine xg_goto (tgt := 113) dX12_keepsLinks_109 (by decide) ?_
  exact xg_jump (gX12_keepsLinks_113 hl rc4 x0 h0 x1 h1 x3 h3 1 (by decide) s0 hs0 hr4 M hM) (xsb_s (xsb_s (xsb_n (xsb_s (xsb_n (xsb_n xsb_0)))))) (by decide) (by decide)
theorem gX12_keepsLinks_70 {l : Launch} {G : xG} (hl : l.stackTraces = false) (rc4 : Int → Int → xM → xO) (x0 : Nat) (h0 : xOb 12 x0) (x1 : Int) (h1 : R32 x1) (x3 : Int) (h3 : R32 x3) (x4 : Int) (h4 : R32 x4) (x5 : Int) (h5 : R32 x5) (s0 : Int) (hs0 : B01 s0) (s1 : Int) (hs1 : B01 s1) (hr4 : ∀ w2 : Int, B01 w2 → ∀ w3 : Int, R32 w3 → ∀ M : xM, xcan M → Gv l G uX12_keepsLinks 3 1 0 0 4 [some (.ref x0), some (iv x1), some (iv w2), some (iv w3), none, none] [] M (rc4 w2 w3 M)) (M : xM) (hM : xcan M) : Gv l G uX12_keepsLinks 3 1 0 0 70 [some (.ref x0), some (iv x1), none, some (iv x3), some (iv x4), some (iv x5)] [iv s0, iv s1] M (fX12_keepsLinks_70 rc4 x0 x1 x3 x4 x5 s0 s1 M) := by
  unfold fX12_keepsLinks_70
  refine xg_iand dX12_keepsLinks_70 (Eq.refl 71) ?_
  refine xg_istore_n (ls2 := [some (.ref x0), some (iv x1), some (iv (xand s1 s0)), some (iv x3), some (iv x4), some (iv x5)]) dX12_keepsLinks_71 (Eq.refl 72) (by decide) rfl ?_
  refine xg_iload_n dX12_keepsLinks_72 (Eq.refl 73) rfl ?_
  refine xg_aload_n dX12_keepsLinks_73 (Eq.refl 74) rfl ?_
  refine xg_getR (k := 0) xcl12 h0 rfl xq_122 rfl (xt_12_0 h0).1 dX12_keepsLinks_74 (Eq.refl 77) ?_
  refine xg_sipush dX12_keepsLinks_77 (Eq.refl 80) (by decide +kernel) ?_
  refine xg_iload_n dX12_keepsLinks_80 (Eq.refl 81) rfl ?_
  refine xg_iadd dX12_keepsLinks_81 (Eq.refl 82) ?_
  refine xg_lald (xt_12_0 h0).2 dX12_keepsLinks_82 (Eq.refl 83) ?_
  refine xg_lconst (z := 0) dX12_keepsLinks_83 (Eq.refl 84) rfl ?_
  refine xg_lif_eq (tgt := 108) dX12_keepsLinks_84 (Eq.refl 85) dX12_keepsLinks_85 (Eq.refl 88) (by decide) (hM.aj (xt_12_0 h0).2) (by decide) ?_ ?_
  · exact xg_jump (gX12_keepsLinks_108 hl rc4 x0 h0 x1 h1 x3 h3 (xand s1 s0) (xand_b hs1 hs0) hr4 M hM) (xsb_s (xsb_s (xsb_n (xsb_s (xsb_n (xsb_n xsb_0)))))) (by decide) (by decide)
  · refine xg_aload_n dX12_keepsLinks_88 (Eq.refl 89) rfl ?_
    refine xg_iload_n dX12_keepsLinks_89 (Eq.refl 90) rfl ?_
    refine xg_iload dX12_keepsLinks_90 (Eq.refl 92) rfl ?_
    refine xg_callV_Z (kc := 0) (ks := 0) (st := [iv (xand s1 s0)]) (mX12_inSet hl x0 h0 x1 h1 x5 h5 M hM) bX12_inSet xcl12 h0 rfl xq_862 rfl (by decide) rfl (Nat.le_of_ble_eq_true rfl) dX12_keepsLinks_92 (Eq.refl 95) rfl (by decide) (by decide) ?_
    intro z1 M2 hz1 hM2
    refine xg_if_eq (tgt := 108) dX12_keepsLinks_95 (Eq.refl 98) (by decide) (B01.r hz1) ?_ ?_
    · exact xg_jump (gX12_keepsLinks_108 hl rc4 x0 h0 x1 h1 x3 h3 (xand s1 s0) (xand_b hs1 hs0) hr4 M2 hM2) (xsb_s (xsb_s (xsb_n (xsb_s (xsb_n (xsb_n xsb_0)))))) (by decide) (by decide)
    · refine xg_aload_n dX12_keepsLinks_98 (Eq.refl 99) rfl ?_
      refine xg_iload_n dX12_keepsLinks_99 (Eq.refl 100) rfl ?_
      refine xg_iload dX12_keepsLinks_100 (Eq.refl 102) rfl ?_
      refine xg_callV_Z (kc := 0) (ks := 0) (st := [iv (xand s1 s0)]) (mX12_has hl x0 h0 x1 h1 x4 h4 M2 hM2) bX12_has xcl12 h0 rfl xq_866 rfl (by decide) rfl (Nat.le_of_ble_eq_true rfl) dX12_keepsLinks_102 (Eq.refl 105) rfl (by decide) (by decide) ?_
      intro z3 M4 hz3 hM4
      refine xg_if_eq (tgt := 112) dX12_keepsLinks_105 (Eq.refl 108) (by decide) (B01.r hz3) ?_ ?_
      · refine xg_iconst dX12_keepsLinks_112 (Eq.refl 113) ?_
        exact xg_jump (gX12_keepsLinks_113 hl rc4 x0 h0 x1 h1 x3 h3 0 (by decide) (xand s1 s0) (xand_b hs1 hs0) hr4 M4 hM4) (xsb_s (xsb_s (xsb_n (xsb_s (xsb_n (xsb_n xsb_0)))))) (by decide) (by decide)
      · exact xg_jump (gX12_keepsLinks_108 hl rc4 x0 h0 x1 h1 x3 h3 (xand s1 s0) (xand_b hs1 hs0) hr4 M4 hM4) (xsb_s (xsb_s (xsb_n (xsb_s (xsb_n (xsb_n xsb_0)))))) (by decide) (by decide)
theorem gX12_keepsLinks_65 {l : Launch} {G : xG} (hl : l.stackTraces = false) (rc4 : Int → Int → xM → xO) (x0 : Nat) (h0 : xOb 12 x0) (x1 : Int) (h1 : R32 x1) (x3 : Int) (h3 : R32 x3) (x4 : Int) (h4 : R32 x4) (x5 : Int) (h5 : R32 x5) (s0 : Int) (hs0 : B01 s0) (hr4 : ∀ w2 : Int, B01 w2 → ∀ w3 : Int, R32 w3 → ∀ M : xM, xcan M → Gv l G uX12_keepsLinks 3 1 0 0 4 [some (.ref x0), some (iv x1), some (iv w2), some (iv w3), none, none] [] M (rc4 w2 w3 M)) (M : xM) (hM : xcan M) : Gv l G uX12_keepsLinks 3 1 0 0 65 [some (.ref x0), some (iv x1), none, some (iv x3), some (iv x4), some (iv x5)] [iv s0] M (fX12_keepsLinks_65 rc4 x0 x1 x3 x4 x5 s0 M) := by
  unfold fX12_keepsLinks_65
  refine xg_iconst dX12_keepsLinks_65 (Eq.refl 66) ?_
  refine xg_goto (tgt := 70) dX12_keepsLinks_66 (by decide) ?_
  exact xg_jump (gX12_keepsLinks_70 hl rc4 x0 h0 x1 h1 x3 h3 x4 h4 x5 h5 1 (by decide) s0 hs0 hr4 M hM) (xsb_s (xsb_s (xsb_n (xsb_s (xsb_s (xsb_s xsb_0)))))) (by decide) (by decide)
theorem gX12_keepsLinks_4 {l : Launch} {G : xG} (hl : l.stackTraces = false) (x0 : Nat) (h0 : xOb 12 x0) (x1 : Int) (h1 : R32 x1) : ∀ (n : Nat) (x2 : Int) (_ : B01 x2) (x3 : Int) (_ : R32 x3) (M : xM) (_ : xcan M), Gv l G uX12_keepsLinks 3 1 0 0 4 [some (.ref x0), some (iv x1), some (iv x2), some (iv x3), none, none] [] M (fX12_keepsLinks_4 x0 x1 n x2 x3 M) := by
  intro n; induction n with
  | zero => intro x2 h2 x3 h3 M hM; exact xg_none
  | succ n ih =>
    intro x2 h2 x3 h3 M hM
    rw [fX12_keepsLinks_4]
    refine xg_iload_n dX12_keepsLinks_4 (Eq.refl 5) rfl ?_
    refine xg_i2l dX12_keepsLinks_5 (Eq.refl 6) h3 ?_
    refine xg_aload_n dX12_keepsLinks_6 (Eq.refl 7) rfl ?_
    refine xg_getR (k := 0) xcl12 h0 rfl xq_122 rfl (xt_12_0 h0).1 dX12_keepsLinks_7 (Eq.refl 10) ?_
    refine xg_sipush dX12_keepsLinks_10 (Eq.refl 13) (by decide +kernel) ?_
    refine xg_laldk (k := 1544) (xt_12_0 h0).2 dX12_keepsLinks_13 (Eq.refl 14) rfl (by decide) ?_
    refine xg_lif_ge (tgt := 121) dX12_keepsLinks_14 (Eq.refl 15) dX12_keepsLinks_15 (Eq.refl 18) (by decide) (R32.j h3) (hM.aj (xt_12_0 h0).2) ?_ ?_
    · refine xg_iload_n dX12_keepsLinks_121 (Eq.refl 122) rfl ?_
      exact xg_zret rfl dX12_keepsLinks_122 rfl hM h2
    · refine xg_aload_n dX12_keepsLinks_18 (Eq.refl 19) rfl ?_
      refine xg_getR (k := 0) xcl12 h0 rfl xq_122 rfl (xt_12_0 h0).1 dX12_keepsLinks_19 (Eq.refl 22) ?_
      refine xg_sipush dX12_keepsLinks_22 (Eq.refl 25) (by decide +kernel) ?_
      refine xg_iload_n dX12_keepsLinks_25 (Eq.refl 26) rfl ?_
      refine xg_iadd dX12_keepsLinks_26 (Eq.refl 27) ?_
      refine xg_lald (xt_12_0 h0).2 dX12_keepsLinks_27 (Eq.refl 28) ?_
      refine xg_l2i dX12_keepsLinks_28 (Eq.refl 29) ?_
      refine xg_istoreL (P := R32) (ls2 := fun y1 => [some (.ref x0), some (iv x1), some (iv x2), some (iv x3), some (iv y1), none]) dX12_keepsLinks_29 (Eq.refl 31) (by decide) (w32_r _) (fun _ => rfl) ?_
      intro y1 hy1
      refine xg_aload_n dX12_keepsLinks_31 (Eq.refl 32) rfl ?_
      refine xg_getR (k := 0) xcl12 h0 rfl xq_122 rfl (xt_12_0 h0).1 dX12_keepsLinks_32 (Eq.refl 35) ?_
      refine xg_sipush dX12_keepsLinks_35 (Eq.refl 38) (by decide +kernel) ?_
      refine xg_iload_n dX12_keepsLinks_38 (Eq.refl 39) rfl ?_
      refine xg_iadd dX12_keepsLinks_39 (Eq.refl 40) ?_
      refine xg_lald (xt_12_0 h0).2 dX12_keepsLinks_40 (Eq.refl 41) ?_
      refine xg_l2i dX12_keepsLinks_41 (Eq.refl 42) ?_
      refine xg_istoreL (P := R32) (ls2 := fun y2 => [some (.ref x0), some (iv x1), some (iv x2), some (iv x3), some (iv y1), some (iv y2)]) dX12_keepsLinks_42 (Eq.refl 44) (by decide) (w32_r _) (fun _ => rfl) ?_
      intro y2 hy2
      refine xg_iload_n dX12_keepsLinks_44 (Eq.refl 45) rfl ?_
      refine xg_aload_n dX12_keepsLinks_45 (Eq.refl 46) rfl ?_
      refine xg_iload_n dX12_keepsLinks_46 (Eq.refl 47) rfl ?_
      refine xg_iload dX12_keepsLinks_47 (Eq.refl 49) rfl ?_
      refine xg_callV_Z (kc := 0) (ks := 0) (st := [iv x2]) (mX12_inSet hl x0 h0 x1 h1 y1 hy1 M hM) bX12_inSet xcl12 h0 rfl xq_862 rfl (by decide) rfl (Nat.le_of_ble_eq_true rfl) dX12_keepsLinks_49 (Eq.refl 52) rfl (by decide) (by decide) ?_
      intro z3 M4 hz3 hM4
      refine xg_if_eq (tgt := 65) dX12_keepsLinks_52 (Eq.refl 55) (by decide) (B01.r hz3) ?_ ?_
      · exact xg_jump (gX12_keepsLinks_65 hl (fX12_keepsLinks_4 x0 x1 n) x0 h0 x1 h1 x3 h3 y1 hy1 y2 hy2 x2 h2 ih M4 hM4) (xsb_s (xsb_s (xsb_n (xsb_s (xsb_s (xsb_s xsb_0)))))) (by decide) (by decide)
      · refine xg_aload_n dX12_keepsLinks_55 (Eq.refl 56) rfl ?_
        refine xg_iload_n dX12_keepsLinks_56 (Eq.refl 57) rfl ?_
        refine xg_iload dX12_keepsLinks_57 (Eq.refl 59) rfl ?_
        refine xg_callV_Z (kc := 0) (ks := 0) (st := [iv x2]) (mX12_has hl x0 h0 x1 h1 y2 hy2 M4 hM4) bX12_has xcl12 h0 rfl xq_866 rfl (by decide) rfl (Nat.le_of_ble_eq_true rfl) dX12_keepsLinks_59 (Eq.refl 62) rfl (by decide) (by decide) ?_
        intro z5 M6 hz5 hM6
        refine xg_if_eq (tgt := 69) dX12_keepsLinks_62 (Eq.refl 65) (by decide) (B01.r hz5) ?_ ?_
        · refine xg_iconst dX12_keepsLinks_69 (Eq.refl 70) ?_
          exact xg_jump (gX12_keepsLinks_70 hl (fX12_keepsLinks_4 x0 x1 n) x0 h0 x1 h1 x3 h3 y1 hy1 y2 hy2 0 (by decide) x2 h2 ih M6 hM6) (xsb_s (xsb_s (xsb_n (xsb_s (xsb_s (xsb_s xsb_0)))))) (by decide) (by decide)
        · exact xg_jump (gX12_keepsLinks_65 hl (fX12_keepsLinks_4 x0 x1 n) x0 h0 x1 h1 x3 h3 y1 hy1 y2 hy2 x2 h2 ih M6 hM6) (xsb_s (xsb_s (xsb_n (xsb_s (xsb_s (xsb_s xsb_0)))))) (by decide) (by decide)
theorem mX12_keepsLinks {l : Launch} {G : xG} (hl : l.stackTraces = false) (x0 : Nat) (h0 : xOb 12 x0) (x1 : Int) (h1 : R32 x1) (M : xM) (hM : xcan M) : Cm l G yX12_keepsLinks cX12_keepsLinks 6 (some .boolean) 3 1 0 0 [.ref x0, iv x1] M (fX12_keepsLinks x0 x1 M) := by
  refine xcm_of (u := uX12_keepsLinks) (ls := [some (.ref x0), some (iv x1), none, none, none, none]) 4 hl rfl (by decide +kernel) (Nat.le_of_ble_eq_true rfl) rfl ?_
  unfold fX12_keepsLinks
  refine xg_iconst dX12_keepsLinks_0 (Eq.refl 1) ?_
  refine xg_istore_n (ls2 := [some (.ref x0), some (iv x1), some (iv 1), none, none, none]) dX12_keepsLinks_1 (Eq.refl 2) (by decide) rfl ?_
  refine xg_iconst dX12_keepsLinks_2 (Eq.refl 3) ?_
  refine xg_istore_n (ls2 := [some (.ref x0), some (iv x1), some (iv 1), some (iv 0), none, none]) dX12_keepsLinks_3 (Eq.refl 4) (by decide) rfl ?_
  exact xg_jump (gX12_keepsLinks_4 hl x0 h0 x1 h1 xN 1 (by decide) 0 (by decide) M hM) (xsb_s (xsb_s (xsb_s (xsb_s (xsb_n (xsb_n xsb_0)))))) (by decide) (by decide)
abbrev uX12_moveAll : xU := (RX12, cX12_moveAll, 4, none, [], "moveAll")
theorem bX12_moveAll : xYV yX12_moveAll cX12_moveAll 4 none 2 := ⟨xq_871, xq_872, xq_5, xq_873, ⟨by decide +kernel, by decide +kernel, by decide +kernel⟩, by decide⟩
theorem gX12_moveAll_65 {l : Launch} {G : xG} (hl : l.stackTraces = false) (rc2 : Int → xM → xO) (x0 : Nat) (h0 : xOb 12 x0) (x1 : Int) (h1 : R32 x1) (x2 : Int) (h2 : R32 x2) (x3 : Int) (h3 : R32 x3) (hr2 : ∀ w3 : Int, R32 w3 → ∀ M : xM, xcan M → Gv l G uX12_moveAll 3 3 0 0 2 [some (.ref x0), some (iv x1), some (iv x2), some (iv w3)] [] M (rc2 w3 M)) (M : xM) (hM : xcan M) : Gv l G uX12_moveAll 3 3 0 0 65 [some (.ref x0), some (iv x1), some (iv x2), some (iv x3)] [] M (fX12_moveAll_65 rc2 x0 x1 x2 x3 M) := by
  unfold fX12_moveAll_65
  refine xg_iinc (ls2 := [some (.ref x0), some (iv x1), some (iv x2), some (iv (w32 (x3 + 1)))]) dX12_moveAll_65 (Eq.refl 68) rfl (by decide) rfl ?_
  refine xg_goto (tgt := 2) dX12_moveAll_68 (by decide) ?_
  exact xg_jump (hr2 (w32 (x3 + 1)) (w32_r _) M hM) (xsb_s (xsb_s (xsb_s (xsb_s xsb_0)))) (by decide) (by decide)
theorem gX12_moveAll_2 {l : Launch} {G : xG} (hl : l.stackTraces = false) (x0 : Nat) (h0 : xOb 12 x0) (x1 : Int) (h1 : R32 x1) (x2 : Int) (h2 : R32 x2) : ∀ (n : Nat) (x3 : Int) (_ : R32 x3) (M : xM) (_ : xcan M), Gv l G uX12_moveAll 3 3 0 0 2 [some (.ref x0), some (iv x1), some (iv x2), some (iv x3)] [] M (fX12_moveAll_2 x0 x1 x2 n x3 M) := by
  intro n; induction n with
  | zero => intro x3 h3 M hM; exact xg_none
  | succ n ih =>
    intro x3 h3 M hM
    rw [fX12_moveAll_2]
    refine xg_iload_n dX12_moveAll_2 (Eq.refl 3) rfl ?_
    refine xg_aload_n dX12_moveAll_3 (Eq.refl 4) rfl ?_
    refine xg_getI (k := 5) xcl12 h0 rfl xq_813 rfl dX12_moveAll_4 (Eq.refl 7) ?_
    refine xg_icmp_ge (tgt := 71) dX12_moveAll_7 (Eq.refl 10) (by decide) h3 (hM.I h0 rfl) ?_ ?_
    · exact xg_vret rfl dX12_moveAll_71 rfl hM
    · refine xg_iload_n dX12_moveAll_10 (Eq.refl 11) rfl ?_
      refine xg_iload_n dX12_moveAll_11 (Eq.refl 12) rfl ?_
      refine xg_ishr dX12_moveAll_12 (Eq.refl 13) ?_
      refine xg_iconst dX12_moveAll_13 (Eq.refl 14) ?_
      refine xg_iand dX12_moveAll_14 (Eq.refl 15) ?_
      refine xg_iconst dX12_moveAll_15 (Eq.refl 16) ?_
      refine xg_icmp_ne (tgt := 65) dX12_moveAll_16 (Eq.refl 19) (by decide) (xand_r _ _) (by decide) ?_ ?_
      · refine xg_aload_n dX12_moveAll_19 (Eq.refl 20) rfl ?_
        refine xg_aload_n dX12_moveAll_20 (Eq.refl 21) rfl ?_
        refine xg_getR (k := 4) xcl12 h0 rfl xq_125 rfl (xt_12_4 h0).1 dX12_moveAll_21 (Eq.refl 24) ?_
        refine xg_iload_n dX12_moveAll_24 (Eq.refl 25) rfl ?_
        refine xg_iald (xt_12_4 h0).2 dX12_moveAll_25 (Eq.refl 26) ?_
        refine xg_iload_n dX12_moveAll_26 (Eq.refl 27) rfl ?_
        refine xg_i2l dX12_moveAll_27 (Eq.refl 28) h2 ?_
        refine xg_aload_n dX12_moveAll_28 (Eq.refl 29) rfl ?_
        refine xg_getR (k := 0) xcl12 h0 rfl xq_122 rfl (xt_12_0 h0).1 dX12_moveAll_29 (Eq.refl 32) ?_
        refine xg_sipush dX12_moveAll_32 (Eq.refl 35) (by decide +kernel) ?_
        refine xg_aload_n dX12_moveAll_35 (Eq.refl 36) rfl ?_
        refine xg_getR (k := 4) xcl12 h0 rfl xq_125 rfl (xt_12_4 h0).1 dX12_moveAll_36 (Eq.refl 39) ?_
        refine xg_iload_n dX12_moveAll_39 (Eq.refl 40) rfl ?_
        refine xg_iald (xt_12_4 h0).2 dX12_moveAll_40 (Eq.refl 41) ?_
        refine xg_iadd dX12_moveAll_41 (Eq.refl 42) ?_
        refine xg_lald (xt_12_0 h0).2 dX12_moveAll_42 (Eq.refl 43) ?_
        refine xg_lmul dX12_moveAll_43 (Eq.refl 44) ?_
        refine xg_iload_n dX12_moveAll_44 (Eq.refl 45) rfl ?_
        refine xg_i2l dX12_moveAll_45 (Eq.refl 46) h2 ?_
        refine xg_aload_n dX12_moveAll_46 (Eq.refl 47) rfl ?_
        refine xg_getR (k := 0) xcl12 h0 rfl xq_122 rfl (xt_12_0 h0).1 dX12_moveAll_47 (Eq.refl 50) ?_
        refine xg_sipush dX12_moveAll_50 (Eq.refl 53) (by decide +kernel) ?_
        refine xg_aload_n dX12_moveAll_53 (Eq.refl 54) rfl ?_
        refine xg_getR (k := 4) xcl12 h0 rfl xq_125 rfl (xt_12_4 h0).1 dX12_moveAll_54 (Eq.refl 57) ?_
        refine xg_iload_n dX12_moveAll_57 (Eq.refl 58) rfl ?_
        refine xg_iald (xt_12_4 h0).2 dX12_moveAll_58 (Eq.refl 59) ?_
        refine xg_iadd dX12_moveAll_59 (Eq.refl 60) ?_
        refine xg_lald (xt_12_0 h0).2 dX12_moveAll_60 (Eq.refl 61) ?_
        refine xg_lmul dX12_moveAll_61 (Eq.refl 62) ?_
        refine xg_callV_N (kc := 0) (ks := 0) (st := []) (mX12_move hl x0 h0 (M (xr x0 4) x3.toNat) (hM.ai (xt_12_4 h0).2) (w64 (x2 * (M (xr x0 0) (w32 (770 + (M (xr x0 4) x3.toNat))).toNat))) (w64_r _) (w64 (x2 * (M (xr x0 0) (w32 (790 + (M (xr x0 4) x3.toNat))).toNat))) (w64_r _) M hM) bX12_move xcl12 h0 rfl xq_874 rfl (by decide) rfl (by decide) dX12_moveAll_62 (Eq.refl 65) rfl (by decide) (by decide) ?_
        intro z1 M2 hz1 hM2
        exact xg_jump (gX12_moveAll_65 hl (fX12_moveAll_2 x0 x1 x2 n) x0 h0 x1 h1 x2 h2 x3 h3 ih M2 hM2) (xsb_s (xsb_s (xsb_s (xsb_s xsb_0)))) (by decide) (by decide)
      · exact xg_jump (gX12_moveAll_65 hl (fX12_moveAll_2 x0 x1 x2 n) x0 h0 x1 h1 x2 h2 x3 h3 ih M hM) (xsb_s (xsb_s (xsb_s (xsb_s xsb_0)))) (by decide) (by decide)
theorem mX12_moveAll {l : Launch} {G : xG} (hl : l.stackTraces = false) (x0 : Nat) (h0 : xOb 12 x0) (x1 : Int) (h1 : R32 x1) (x2 : Int) (h2 : R32 x2) (M : xM) (hM : xcan M) : Cm l G yX12_moveAll cX12_moveAll 4 none 3 3 0 0 [.ref x0, iv x1, iv x2] M (fX12_moveAll x0 x1 x2 M) := by
  refine xcm_of (u := uX12_moveAll) (ls := [some (.ref x0), some (iv x1), some (iv x2), none]) 1 hl rfl (by decide +kernel) (Nat.le_of_ble_eq_true rfl) rfl ?_
  unfold fX12_moveAll
  refine xg_iconst dX12_moveAll_0 (Eq.refl 1) ?_
  refine xg_istore_n (ls2 := [some (.ref x0), some (iv x1), some (iv x2), some (iv 0)]) dX12_moveAll_1 (Eq.refl 2) (by decide) rfl ?_
  exact xg_jump (gX12_moveAll_2 hl x0 h0 x1 h1 x2 h2 xN 0 (by decide) M hM) (xsb_s (xsb_s (xsb_s (xsb_s xsb_0)))) (by decide) (by decide)
abbrev uX12_can : xU := (RX12, cX12_can, 5, (some .boolean), [], "can")
theorem bX12_can : xYV yX12_can cX12_can 5 (some .boolean) 1 := ⟨xq_855, xq_856, xq_5, xq_857, ⟨by decide +kernel, by decide +kernel, by decide +kernel⟩, by decide⟩
theorem gX12_can_93 {l : Launch} {G : xG} (hl : l.stackTraces = false) (x0 : Nat) (h0 : xOb 12 x0) (x1 : Int) (h1 : R32 x1) (x2 : Int) (h2 : B01 x2) (M : xM) (hM : xcan M) : Gv l G uX12_can 4 1 0 0 93 [some (.ref x0), some (iv x1), some (iv x2), none, none] [] M (fX12_can_93 x0 x1 x2 M) := by
  unfold fX12_can_93
  refine xg_aload_n dX12_can_93 (Eq.refl 94) rfl ?_
  refine xg_iload_n dX12_can_94 (Eq.refl 95) rfl ?_
  refine xg_iconst dX12_can_95 (Eq.refl 96) ?_
  refine xg_callV_N (kc := 0) (ks := 0) (st := []) (mX12_moveAll hl x0 h0 x1 h1 (-1) (by decide) M hM) bX12_moveAll xcl12 h0 rfl xq_870 rfl (by decide) rfl (by decide) dX12_can_96 (Eq.refl 99) rfl (by decide) (by decide) ?_
  intro z1 M2 hz1 hM2
  refine xg_iload_n dX12_can_99 (Eq.refl 100) rfl ?_
  exact xg_zret rfl dX12_can_100 rfl hM2 h2
theorem gX12_can_86 {l : Launch} {G : xG} (hl : l.stackTraces = false) (rc14 : Int → Int → xM → xO) (x0 : Nat) (h0 : xOb 12 x0) (x1 : Int) (h1 : R32 x1) (x3 : Int) (h3 : R32 x3) (s0 : Int) (hs0 : B01 s0) (hr14 : ∀ w2 : Int, B01 w2 → ∀ w3 : Int, R32 w3 → ∀ M : xM, xcan M → Gv l G uX12_can 4 1 0 0 14 [some (.ref x0), some (iv x1), some (iv w2), some (iv w3), none] [] M (rc14 w2 w3 M)) (M : xM) (hM : xcan M) : Gv l G uX12_can 4 1 0 0 86 [some (.ref x0), some (iv x1), none, some (iv x3), none] [iv s0] M (fX12_can_86 rc14 x0 x1 x3 s0 M) := by
  unfold fX12_can_86
  refine xg_istore_n (ls2 := [some (.ref x0), some (iv x1), some (iv s0), some (iv x3), none]) dX12_can_86 (Eq.refl 87) (by decide) rfl ?_
  refine xg_iinc (ls2 := [some (.ref x0), some (iv x1), some (iv s0), some (iv (w32 (x3 + 1))), none]) dX12_can_87 (Eq.refl 90) rfl (by decide) rfl ?_
  refine xg_goto (tgt := 14) dX12_can_90 (by decide) ?_
  exact xg_jump (hr14 s0 hs0 (w32 (x3 + 1)) (w32_r _) M hM) (xsb_s (xsb_s (xsb_s (xsb_s (xsb_n xsb_0))))) (by decide) (by decide)
theorem gX12_can_85 {l : Launch} {G : xG} (hl : l.stackTraces = false) (rc14 : Int → Int → xM → xO) (x0 : Nat) (h0 : xOb 12 x0) (x1 : Int) (h1 : R32 x1) (x3 : Int) (h3 : R32 x3) (hr14 : ∀ w2 : Int, B01 w2 → ∀ w3 : Int, R32 w3 → ∀ M : xM, xcan M → Gv l G uX12_can 4 1 0 0 14 [some (.ref x0), some (iv x1), some (iv w2), some (iv w3), none] [] M (rc14 w2 w3 M)) (M : xM) (hM : xcan M) : Gv l G uX12_can 4 1 0 0 85 [some (.ref x0), some (iv x1), none, some (iv x3), none] [] M (fX12_can_85 rc14 x0 x1 x3 M) := by
  unfold fX12_can_85
  refine xg_iconst dX12_can_85 (Eq.refl 86) ?_
  exact xg_jump (gX12_can_86 hl rc14 x0 h0 x1 h1 x3 h3 0 (by decide) hr14 M hM) (xsb_s (xsb_s (xsb_n (xsb_s (xsb_n xsb_0))))) (by decide) (by decide)
theorem gX12_can_81 {l : Launch} {G : xG} (hl : l.stackTraces = false) (rc14 : Int → Int → xM → xO) (x0 : Nat) (h0 : xOb 12 x0) (x1 : Int) (h1 : R32 x1) (x3 : Int) (h3 : R32 x3) (hr14 : ∀ w2 : Int, B01 w2 → ∀ w3 : Int, R32 w3 → ∀ M : xM, xcan M → Gv l G uX12_can 4 1 0 0 14 [some (.ref x0), some (iv x1), some (iv w2), some (iv w3), none] [] M (rc14 w2 w3 M)) (M : xM) (hM : xcan M) : Gv l G uX12_can 4 1 0 0 81 [some (.ref x0), some (iv x1), none, some (iv x3), none] [] M (fX12_can_81 rc14 x0 x1 x3 M) := by
  unfold fX12_can_81
  refine xg_iconst dX12_can_81 (Eq.refl 82) ?_
  refine xg_goto (tgt := 86) dX12_can_82 (by decide) ?_
  exact xg_jump (gX12_can_86 hl rc14 x0 h0 x1 h1 x3 h3 1 (by decide) hr14 M hM) (xsb_s (xsb_s (xsb_n (xsb_s (xsb_n xsb_0))))) (by decide) (by decide)
theorem gX12_can_40 {l : Launch} {G : xG} (hl : l.stackTraces = false) (rc14 : Int → Int → xM → xO) (x0 : Nat) (h0 : xOb 12 x0) (x1 : Int) (h1 : R32 x1) (x3 : Int) (h3 : R32 x3) (s0 : Int) (hs0 : B01 s0) (hr14 : ∀ w2 : Int, B01 w2 → ∀ w3 : Int, R32 w3 → ∀ M : xM, xcan M → Gv l G uX12_can 4 1 0 0 14 [some (.ref x0), some (iv x1), some (iv w2), some (iv w3), none] [] M (rc14 w2 w3 M)) (M : xM) (hM : xcan M) : Gv l G uX12_can 4 1 0 0 40 [some (.ref x0), some (iv x1), none, some (iv x3), none] [iv s0] M (fX12_can_40 rc14 x0 x1 x3 s0 M) := by
  unfold fX12_can_40
  refine xg_istore (ls2 := [some (.ref x0), some (iv x1), none, some (iv x3), some (iv s0)]) dX12_can_40 (Eq.refl 42) (by decide) rfl ?_
  refine xg_iload dX12_can_42 (Eq.refl 44) rfl ?_
  refine xg_if_eq (tgt := 81) dX12_can_44 (Eq.refl 47) (by decide) (B01.r hs0) ?_ ?_
  · exact xg_jump (gX12_can_81 hl rc14 x0 h0 x1 h1 x3 h3 hr14 M hM) (xsb_s (xsb_s (xsb_n (xsb_s (xsb_n xsb_0))))) (by decide) (by decide)
  · refine xg_aload_n dX12_can_47 (Eq.refl 48) rfl ?_
    refine xg_aload_n dX12_can_48 (Eq.refl 49) rfl ?_
    refine xg_aload_n dX12_can_49 (Eq.refl 50) rfl ?_
    refine xg_getR (k := 4) xcl12 h0 rfl xq_125 rfl (xt_12_4 h0).1 dX12_can_50 (Eq.refl 53) ?_
    refine xg_iload_n dX12_can_53 (Eq.refl 54) rfl ?_
    refine xg_iald (xt_12_4 h0).2 dX12_can_54 (Eq.refl 55) ?_
    refine xg_callV_I (kc := 0) (ks := 0) (st := [.ref x0]) (mX12_deliverer hl x0 h0 (M (xr x0 4) x3.toNat) (hM.ai (xt_12_4 h0).2) M hM) bX12_deliverer xcl12 h0 rfl xq_493 rfl (by decide) rfl (Nat.le_of_ble_eq_true rfl) dX12_can_55 (Eq.refl 58) rfl (by decide) (by decide) ?_
    intro z1 M2 hz1 hM2
    refine xg_callV_Z (kc := 0) (ks := 0) (st := []) (mX12_sound hl x0 h0 z1 hz1 M2 hM2) bX12_sound xcl12 h0 rfl xq_358 rfl (by decide) rfl (by decide) dX12_can_58 (Eq.refl 61) rfl (by decide) (by decide) ?_
    intro z3 M4 hz3 hM4
    refine xg_if_eq (tgt := 85) dX12_can_61 (Eq.refl 64) (by decide) (B01.r hz3) ?_ ?_
    · exact xg_jump (gX12_can_85 hl rc14 x0 h0 x1 h1 x3 h3 hr14 M4 hM4) (xsb_s (xsb_s (xsb_n (xsb_s (xsb_n xsb_0))))) (by decide) (by decide)
    · refine xg_aload_n dX12_can_64 (Eq.refl 65) rfl ?_
      refine xg_aload_n dX12_can_65 (Eq.refl 66) rfl ?_
      refine xg_aload_n dX12_can_66 (Eq.refl 67) rfl ?_
      refine xg_getR (k := 4) xcl12 h0 rfl xq_125 rfl (xt_12_4 h0).1 dX12_can_67 (Eq.refl 70) ?_
      refine xg_iload_n dX12_can_70 (Eq.refl 71) rfl ?_
      refine xg_iald (xt_12_4 h0).2 dX12_can_71 (Eq.refl 72) ?_
      refine xg_callV_I (kc := 0) (ks := 0) (st := [.ref x0]) (mX12_receiver hl x0 h0 (M4 (xr x0 4) x3.toNat) (hM4.ai (xt_12_4 h0).2) M4 hM4) bX12_receiver xcl12 h0 rfl xq_497 rfl (by decide) rfl (Nat.le_of_ble_eq_true rfl) dX12_can_72 (Eq.refl 75) rfl (by decide) (by decide) ?_
      intro z5 M6 hz5 hM6
      refine xg_callV_Z (kc := 0) (ks := 0) (st := []) (mX12_sound hl x0 h0 z5 hz5 M6 hM6) bX12_sound xcl12 h0 rfl xq_358 rfl (by decide) rfl (by decide) dX12_can_75 (Eq.refl 78) rfl (by decide) (by decide) ?_
      intro z7 M8 hz7 hM8
      refine xg_if_eq (tgt := 85) dX12_can_78 (Eq.refl 81) (by decide) (B01.r hz7) ?_ ?_
      · exact xg_jump (gX12_can_85 hl rc14 x0 h0 x1 h1 x3 h3 hr14 M8 hM8) (xsb_s (xsb_s (xsb_n (xsb_s (xsb_n xsb_0))))) (by decide) (by decide)
      · exact xg_jump (gX12_can_81 hl rc14 x0 h0 x1 h1 x3 h3 hr14 M8 hM8) (xsb_s (xsb_s (xsb_n (xsb_s (xsb_n xsb_0))))) (by decide) (by decide)
theorem gX12_can_14 {l : Launch} {G : xG} (hl : l.stackTraces = false) (x0 : Nat) (h0 : xOb 12 x0) (x1 : Int) (h1 : R32 x1) : ∀ (n : Nat) (x2 : Int) (_ : B01 x2) (x3 : Int) (_ : R32 x3) (M : xM) (_ : xcan M), Gv l G uX12_can 4 1 0 0 14 [some (.ref x0), some (iv x1), some (iv x2), some (iv x3), none] [] M (fX12_can_14 x0 x1 n x2 x3 M) := by
  intro n; induction n with
  | zero => intro x2 h2 x3 h3 M hM; exact xg_none
  | succ n ih =>
    intro x2 h2 x3 h3 M hM
    rw [fX12_can_14]
    refine xg_iload_n dX12_can_14 (Eq.refl 15) rfl ?_
    refine xg_aload_n dX12_can_15 (Eq.refl 16) rfl ?_
    refine xg_getI (k := 5) xcl12 h0 rfl xq_813 rfl dX12_can_16 (Eq.refl 19) ?_
    refine xg_icmp_ge (tgt := 93) dX12_can_19 (Eq.refl 22) (by decide) h3 (hM.I h0 rfl) ?_ ?_
    · exact xg_jump (gX12_can_93 hl x0 h0 x1 h1 x2 h2 M hM) (xsb_s (xsb_s (xsb_s (xsb_n (xsb_n xsb_0))))) (by decide) (by decide)
    · refine xg_iload_n dX12_can_22 (Eq.refl 23) rfl ?_
      refine xg_if_eq (tgt := 93) dX12_can_23 (Eq.refl 26) (by decide) (B01.r h2) ?_ ?_
      · exact xg_jump (gX12_can_93 hl x0 h0 x1 h1 x2 h2 M hM) (xsb_s (xsb_s (xsb_s (xsb_n (xsb_n xsb_0))))) (by decide) (by decide)
      · refine xg_iload_n dX12_can_26 (Eq.refl 27) rfl ?_
        refine xg_iload_n dX12_can_27 (Eq.refl 28) rfl ?_
        refine xg_ishr dX12_can_28 (Eq.refl 29) ?_
        refine xg_iconst dX12_can_29 (Eq.refl 30) ?_
        refine xg_iand dX12_can_30 (Eq.refl 31) ?_
        refine xg_iconst dX12_can_31 (Eq.refl 32) ?_
        refine xg_icmp_ne (tgt := 39) dX12_can_32 (Eq.refl 35) (by decide) (xand_r _ _) (by decide) ?_ ?_
        · refine xg_iconst dX12_can_35 (Eq.refl 36) ?_
          refine xg_goto (tgt := 40) dX12_can_36 (by decide) ?_
          exact xg_jump (gX12_can_40 hl (fX12_can_14 x0 x1 n) x0 h0 x1 h1 x3 h3 1 (by decide) ih M hM) (xsb_s (xsb_s (xsb_n (xsb_s (xsb_n xsb_0))))) (by decide) (by decide)
        · refine xg_iconst dX12_can_39 (Eq.refl 40) ?_
          exact xg_jump (gX12_can_40 hl (fX12_can_14 x0 x1 n) x0 h0 x1 h1 x3 h3 0 (by decide) ih M hM) (xsb_s (xsb_s (xsb_n (xsb_s (xsb_n xsb_0))))) (by decide) (by decide)
theorem mX12_can {l : Launch} {G : xG} (hl : l.stackTraces = false) (x0 : Nat) (h0 : xOb 12 x0) (x1 : Int) (h1 : R32 x1) (M : xM) (hM : xcan M) : Cm l G yX12_can cX12_can 5 (some .boolean) 4 1 0 0 [.ref x0, iv x1] M (fX12_can x0 x1 M) := by
  refine xcm_of (u := uX12_can) (ls := [some (.ref x0), some (iv x1), none, none, none]) 3 hl rfl (by decide +kernel) (Nat.le_of_ble_eq_true rfl) rfl ?_
  unfold fX12_can
  refine xg_aload_n dX12_can_0 (Eq.refl 1) rfl ?_
  refine xg_iload_n dX12_can_1 (Eq.refl 2) rfl ?_
  refine xg_callV_Z (kc := 0) (ks := 0) (st := []) (mX12_keepsLinks hl x0 h0 x1 h1 M hM) bX12_keepsLinks xcl12 h0 rfl xq_858 rfl (by decide) rfl (by decide) dX12_can_2 (Eq.refl 5) rfl (by decide) (by decide) ?_
  intro z1 M2 hz1 hM2
  refine xg_istore_n (ls2 := [some (.ref x0), some (iv x1), some (iv z1), none, none]) dX12_can_5 (Eq.refl 6) (by decide) rfl ?_
  refine xg_aload_n dX12_can_6 (Eq.refl 7) rfl ?_
  refine xg_iload_n dX12_can_7 (Eq.refl 8) rfl ?_
  refine xg_iconst dX12_can_8 (Eq.refl 9) ?_
  refine xg_callV_N (kc := 0) (ks := 0) (st := []) (mX12_moveAll hl x0 h0 x1 h1 1 (by decide) M2 hM2) bX12_moveAll xcl12 h0 rfl xq_870 rfl (by decide) rfl (by decide) dX12_can_9 (Eq.refl 12) rfl (by decide) (by decide) ?_
  intro z3 M4 hz3 hM4
  refine xg_iconst dX12_can_12 (Eq.refl 13) ?_
  refine xg_istore_n (ls2 := [some (.ref x0), some (iv x1), some (iv z1), some (iv 0), none]) dX12_can_13 (Eq.refl 14) (by decide) rfl ?_
  exact xg_jump (gX12_can_14 hl x0 h0 x1 h1 xN z1 hz1 0 (by decide) M4 hM4) (xsb_s (xsb_s (xsb_s (xsb_s (xsb_n xsb_0))))) (by decide) (by decide)
abbrev uX12_worthOf : xU := (RX12, cX12_worthOf, 5, (some .long), [], "worthOf")
theorem bX12_worthOf : xYV yX12_worthOf cX12_worthOf 5 (some .long) 1 := ⟨xq_835, xq_836, xq_5, xq_837, ⟨by decide +kernel, by decide +kernel, by decide +kernel⟩, by decide⟩
theorem gX12_worthOf_57 {l : Launch} {G : xG} (hl : l.stackTraces = false) (rc5 : Int → Int → xM → xO) (x0 : Nat) (h0 : xOb 12 x0) (x1 : Int) (h1 : R32 x1) (x4 : Int) (h4 : R32 x4) (s0 : Int) (hs0 : R64 s0) (s1 : Int) (hs1 : R64 s1) (hr5 : ∀ w2 : Int, R64 w2 → ∀ w4 : Int, R32 w4 → ∀ M : xM, xcan M → Gv l G uX12_worthOf 3 2 0 0 5 [some (.ref x0), some (iv x1), some (jv w2), none, some (iv w4)] [] M (rc5 w2 w4 M)) (M : xM) (hM : xcan M) : Gv l G uX12_worthOf 3 2 0 0 57 [some (.ref x0), some (iv x1), none, none, some (iv x4)] [jv s0, jv s1] M (fX12_worthOf_57 rc5 x0 x1 x4 s0 s1 M) := by
  unfold fX12_worthOf_57
  refine xg_ladd dX12_worthOf_57 (Eq.refl 58) ?_
  refine xg_lstore_nL (P := R64) (ls2 := fun y1 => [some (.ref x0), some (iv x1), some (jv y1), none, some (iv x4)]) dX12_worthOf_58 (Eq.refl 59) (by decide) (w64_r _) (fun _ => rfl) ?_
  intro y1 hy1
  refine xg_iinc (ls2 := [some (.ref x0), some (iv x1), some (jv y1), none, some (iv (w32 (x4 + 1)))]) dX12_worthOf_59 (Eq.refl 62) rfl (by decide) rfl ?_
  refine xg_goto (tgt := 5) dX12_worthOf_62 (by decide) ?_
  exact xg_jump (hr5 y1 hy1 (w32 (x4 + 1)) (w32_r _) M hM) (xsb_s (xsb_s (xsb_s (xsb_n (xsb_s xsb_0))))) (by decide) (by decide)
theorem gX12_worthOf_5 {l : Launch} {G : xG} (hl : l.stackTraces = false) (x0 : Nat) (h0 : xOb 12 x0) (x1 : Int) (h1 : R32 x1) : ∀ (n : Nat) (x2 : Int) (_ : R64 x2) (x4 : Int) (_ : R32 x4) (M : xM) (_ : xcan M), Gv l G uX12_worthOf 3 2 0 0 5 [some (.ref x0), some (iv x1), some (jv x2), none, some (iv x4)] [] M (fX12_worthOf_5 x0 x1 n x2 x4 M) := by
  intro n; induction n with
  | zero => intro x2 h2 x4 h4 M hM; exact xg_none
  | succ n ih =>
    intro x2 h2 x4 h4 M hM
    rw [fX12_worthOf_5]
    refine xg_iload dX12_worthOf_5 (Eq.refl 7) rfl ?_
    refine xg_aload_n dX12_worthOf_7 (Eq.refl 8) rfl ?_
    refine xg_getI (k := 5) xcl12 h0 rfl xq_813 rfl dX12_worthOf_8 (Eq.refl 11) ?_
    refine xg_icmp_ge (tgt := 65) dX12_worthOf_11 (Eq.refl 14) (by decide) h4 (hM.I h0 rfl) ?_ ?_
    · refine xg_lload_n dX12_worthOf_65 (Eq.refl 66) rfl ?_
      exact xg_lret rfl dX12_worthOf_66 rfl hM h2
    · refine xg_lload_n dX12_worthOf_14 (Eq.refl 15) rfl ?_
      refine xg_iload_n dX12_worthOf_15 (Eq.refl 16) rfl ?_
      refine xg_iload dX12_worthOf_16 (Eq.refl 18) rfl ?_
      refine xg_ishr dX12_worthOf_18 (Eq.refl 19) ?_
      refine xg_iconst dX12_worthOf_19 (Eq.refl 20) ?_
      refine xg_iand dX12_worthOf_20 (Eq.refl 21) ?_
      refine xg_iconst dX12_worthOf_21 (Eq.refl 22) ?_
      refine xg_icmp_ne (tgt := 56) dX12_worthOf_22 (Eq.refl 25) (by decide) (xand_r _ _) (by decide) ?_ ?_
      · refine xg_aload_n dX12_worthOf_25 (Eq.refl 26) rfl ?_
        refine xg_getR (k := 0) xcl12 h0 rfl xq_122 rfl (xt_12_0 h0).1 dX12_worthOf_26 (Eq.refl 29) ?_
        refine xg_sipush dX12_worthOf_29 (Eq.refl 32) (by decide +kernel) ?_
        refine xg_aload_n dX12_worthOf_32 (Eq.refl 33) rfl ?_
        refine xg_getR (k := 4) xcl12 h0 rfl xq_125 rfl (xt_12_4 h0).1 dX12_worthOf_33 (Eq.refl 36) ?_
        refine xg_iload dX12_worthOf_36 (Eq.refl 38) rfl ?_
        refine xg_iald (xt_12_4 h0).2 dX12_worthOf_38 (Eq.refl 39) ?_
        refine xg_iadd dX12_worthOf_39 (Eq.refl 40) ?_
        refine xg_lald (xt_12_0 h0).2 dX12_worthOf_40 (Eq.refl 41) ?_
        refine xg_aload_n dX12_worthOf_41 (Eq.refl 42) rfl ?_
        refine xg_aload_n dX12_worthOf_42 (Eq.refl 43) rfl ?_
        refine xg_getR (k := 4) xcl12 h0 rfl xq_125 rfl (xt_12_4 h0).1 dX12_worthOf_43 (Eq.refl 46) ?_
        refine xg_iload dX12_worthOf_46 (Eq.refl 48) rfl ?_
        refine xg_iald (xt_12_4 h0).2 dX12_worthOf_48 (Eq.refl 49) ?_
        refine xg_callV_J (kc := 0) (ks := 0) (st := [jv (M (xr x0 0) (w32 (790 + (M (xr x0 4) x4.toNat))).toNat), jv x2]) (mX12_worth hl x0 h0 (M (xr x0 4) x4.toNat) (hM.ai (xt_12_4 h0).2) M hM) bX12_worth xcl12 h0 rfl xq_838 rfl (by decide) rfl (Nat.le_of_ble_eq_true rfl) dX12_worthOf_49 (Eq.refl 52) rfl (by decide) (by decide) ?_
        intro z1 M2 hz1 hM2
        refine xg_ladd dX12_worthOf_52 (Eq.refl 53) ?_
        refine xg_goto (tgt := 57) dX12_worthOf_53 (by decide) ?_
        exact xg_jump (gX12_worthOf_57 hl (fX12_worthOf_5 x0 x1 n) x0 h0 x1 h1 x4 h4 (w64 ((M (xr x0 0) (w32 (790 + (M (xr x0 4) x4.toNat))).toNat) + z1)) (w64_r _) x2 h2 ih M2 hM2) (xsb_s (xsb_s (xsb_n (xsb_n (xsb_s xsb_0))))) (by decide) (by decide)
      · refine xg_lconst (z := 0) dX12_worthOf_56 (Eq.refl 57) rfl ?_
        exact xg_jump (gX12_worthOf_57 hl (fX12_worthOf_5 x0 x1 n) x0 h0 x1 h1 x4 h4 0 (by decide) x2 h2 ih M hM) (xsb_s (xsb_s (xsb_n (xsb_n (xsb_s xsb_0))))) (by decide) (by decide)
theorem mX12_worthOf {l : Launch} {G : xG} (hl : l.stackTraces = false) (x0 : Nat) (h0 : xOb 12 x0) (x1 : Int) (h1 : R32 x1) (M : xM) (hM : xcan M) : Cm l G yX12_worthOf cX12_worthOf 5 (some .long) 3 2 0 0 [.ref x0, iv x1] M (fX12_worthOf x0 x1 M) := by
  refine xcm_of (u := uX12_worthOf) (ls := [some (.ref x0), some (iv x1), none, none, none]) 3 hl rfl (by decide +kernel) (Nat.le_of_ble_eq_true rfl) rfl ?_
  unfold fX12_worthOf
  refine xg_lconst (z := 0) dX12_worthOf_0 (Eq.refl 1) rfl ?_
  refine xg_lstore_n (ls2 := [some (.ref x0), some (iv x1), some (jv 0), none, none]) dX12_worthOf_1 (Eq.refl 2) (by decide) rfl ?_
  refine xg_iconst dX12_worthOf_2 (Eq.refl 3) ?_
  refine xg_istore (ls2 := [some (.ref x0), some (iv x1), some (jv 0), none, some (iv 0)]) dX12_worthOf_3 (Eq.refl 5) (by decide) rfl ?_
  exact xg_jump (gX12_worthOf_5 hl x0 h0 x1 h1 xN 0 (by decide) 0 (by decide) M hM) (xsb_s (xsb_s (xsb_s (xsb_n (xsb_s xsb_0))))) (by decide) (by decide)
abbrev uX12_count : xU := (RX12, cX12_count, 4, (some .int), [], "count")
theorem bX12_count : xYV yX12_count cX12_count 4 (some .int) 1 := ⟨xq_847, xq_848, xq_5, xq_849, ⟨by decide +kernel, by decide +kernel, by decide +kernel⟩, by decide⟩
theorem gX12_count_4 {l : Launch} {G : xG} (hl : l.stackTraces = false) (x1 : Int) (h1 : R32 x1) : ∀ (n : Nat) (x2 : Int) (_ : R32 x2) (x3 : Int) (_ : R32 x3) (M : xM) (_ : xcan M), Gv l G uX12_count 1 0 0 0 4 [none, some (iv x1), some (iv x2), some (iv x3)] [] M (fX12_count_4 x1 n x2 x3 M) := by
  intro n; induction n with
  | zero => intro x2 h2 x3 h3 M hM; exact xg_none
  | succ n ih =>
    intro x2 h2 x3 h3 M hM
    rw [fX12_count_4]
    refine xg_iload_n dX12_count_4 (Eq.refl 5) rfl ?_
    refine xg_bipush dX12_count_5 (Eq.refl 7) (by decide +kernel) ?_
    refine xg_icmp_ge (tgt := 24) dX12_count_7 (Eq.refl 10) (by decide) h3 (by decide) ?_ ?_
    · refine xg_iload_n dX12_count_24 (Eq.refl 25) rfl ?_
      exact xg_iret rfl dX12_count_25 rfl hM h2
    · refine xg_iload_n dX12_count_10 (Eq.refl 11) rfl ?_
      refine xg_iload_n dX12_count_11 (Eq.refl 12) rfl ?_
      refine xg_iload_n dX12_count_12 (Eq.refl 13) rfl ?_
      refine xg_ishr dX12_count_13 (Eq.refl 14) ?_
      refine xg_iconst dX12_count_14 (Eq.refl 15) ?_
      refine xg_iand dX12_count_15 (Eq.refl 16) ?_
      refine xg_iadd dX12_count_16 (Eq.refl 17) ?_
      refine xg_istore_nL (P := R32) (ls2 := fun y1 => [none, some (iv x1), some (iv y1), some (iv x3)]) dX12_count_17 (Eq.refl 18) (by decide) (w32_r _) (fun _ => rfl) ?_
      intro y1 hy1
      refine xg_iinc (ls2 := [none, some (iv x1), some (iv y1), some (iv (w32 (x3 + 1)))]) dX12_count_18 (Eq.refl 21) rfl (by decide) rfl ?_
      refine xg_goto (tgt := 4) dX12_count_21 (by decide) ?_
      exact xg_jump (ih y1 hy1 (w32 (x3 + 1)) (w32_r _) M hM) (xsb_n (xsb_s (xsb_s (xsb_s xsb_0)))) (by decide) (by decide)
theorem mX12_count {l : Launch} {G : xG} (hl : l.stackTraces = false) (x0 : Nat) (h0 : xOb 12 x0) (x1 : Int) (h1 : R32 x1) (M : xM) (hM : xcan M) : Cm l G yX12_count cX12_count 4 (some .int) 1 0 0 0 [.ref x0, iv x1] M (fX12_count x0 x1 M) := by
  refine xcm_of (u := uX12_count) (ls := [some (.ref x0), some (iv x1), none, none]) 2 hl rfl (by decide +kernel) (Nat.le_of_ble_eq_true rfl) rfl ?_
  unfold fX12_count
  refine xg_iconst dX12_count_0 (Eq.refl 1) ?_
  refine xg_istore_n (ls2 := [some (.ref x0), some (iv x1), some (iv 0), none]) dX12_count_1 (Eq.refl 2) (by decide) rfl ?_
  refine xg_iconst dX12_count_2 (Eq.refl 3) ?_
  refine xg_istore_n (ls2 := [some (.ref x0), some (iv x1), some (iv 0), some (iv 0)]) dX12_count_3 (Eq.refl 4) (by decide) rfl ?_
  exact xg_jump (gX12_count_4 hl x1 h1 xN 0 (by decide) 0 (by decide) M hM) (xsb_n (xsb_s (xsb_s (xsb_s xsb_0)))) (by decide) (by decide)
abbrev uX12_first : xU := (RX12, cX12_first, 5, (some .boolean), [], "first")
theorem bX12_first : xYV yX12_first cX12_first 5 (some .boolean) 2 := ⟨xq_851, xq_852, xq_5, xq_853, ⟨by decide +kernel, by decide +kernel, by decide +kernel⟩, by decide⟩
theorem gX12_first_29 {l : Launch} {G : xG} (hl : l.stackTraces = false) (x1 : Int) (h1 : R32 x1) (x4 : Int) (h4 : R32 x4) (M : xM) (hM : xcan M) : Gv l G uX12_first 1 1 0 0 29 [none, some (iv x1), none, none, some (iv x4)] [] M (fX12_first_29 x1 x4 M) := by
  unfold fX12_first_29
  refine xg_iload_n dX12_first_29 (Eq.refl 30) rfl ?_
  refine xg_iload dX12_first_30 (Eq.refl 32) rfl ?_
  refine xg_ishr dX12_first_32 (Eq.refl 33) ?_
  refine xg_iconst dX12_first_33 (Eq.refl 34) ?_
  refine xg_iand dX12_first_34 (Eq.refl 35) ?_
  refine xg_iconst dX12_first_35 (Eq.refl 36) ?_
  refine xg_icmp_ne (tgt := 43) dX12_first_36 (Eq.refl 39) (by decide) (xand_r _ _) (by decide) ?_ ?_
  · refine xg_iconst dX12_first_39 (Eq.refl 40) ?_
    refine xg_goto (tgt := 44) dX12_first_40 (by decide) ?_
    exact xg_zret rfl dX12_first_44 rfl hM (by decide)
  · refine xg_iconst dX12_first_43 (Eq.refl 44) ?_
    exact xg_zret rfl dX12_first_44 rfl hM (by decide)
theorem gX12_first_7 {l : Launch} {G : xG} (hl : l.stackTraces = false) (x1 : Int) (h1 : R32 x1) (x3 : Int) (h3 : R32 x3) : ∀ (n : Nat) (x4 : Int) (_ : R32 x4) (M : xM) (_ : xcan M), Gv l G uX12_first 1 1 0 0 7 [none, some (iv x1), none, some (iv x3), some (iv x4)] [] M (fX12_first_7 x1 x3 n x4 M) := by
  intro n; induction n with
  | zero => intro x4 h4 M hM; exact xg_none
  | succ n ih =>
    intro x4 h4 M hM
    rw [fX12_first_7]
    refine xg_iload dX12_first_7 (Eq.refl 9) rfl ?_
    refine xg_bipush dX12_first_9 (Eq.refl 11) (by decide +kernel) ?_
    refine xg_icmp_ge (tgt := 29) dX12_first_11 (Eq.refl 14) (by decide) h4 (by decide) ?_ ?_
    · exact xg_jump (gX12_first_29 hl x1 h1 x4 h4 M hM) (xsb_n (xsb_s (xsb_n (xsb_n (xsb_s xsb_0))))) (by decide) (by decide)
    · refine xg_iload_n dX12_first_14 (Eq.refl 15) rfl ?_
      refine xg_iload dX12_first_15 (Eq.refl 17) rfl ?_
      refine xg_ishr dX12_first_17 (Eq.refl 18) ?_
      refine xg_iconst dX12_first_18 (Eq.refl 19) ?_
      refine xg_iand dX12_first_19 (Eq.refl 20) ?_
      refine xg_if_ne (tgt := 29) dX12_first_20 (Eq.refl 23) (by decide) (xand_r _ _) ?_ ?_
      · refine xg_iinc (ls2 := [none, some (iv x1), none, some (iv x3), some (iv (w32 (x4 + 1)))]) dX12_first_23 (Eq.refl 26) rfl (by decide) rfl ?_
        refine xg_goto (tgt := 7) dX12_first_26 (by decide) ?_
        exact xg_jump (ih (w32 (x4 + 1)) (w32_r _) M hM) (xsb_n (xsb_s (xsb_n (xsb_s (xsb_s xsb_0))))) (by decide) (by decide)
      · exact xg_jump (gX12_first_29 hl x1 h1 x4 h4 M hM) (xsb_n (xsb_s (xsb_n (xsb_n (xsb_s xsb_0))))) (by decide) (by decide)
theorem mX12_first {l : Launch} {G : xG} (hl : l.stackTraces = false) (x0 : Nat) (h0 : xOb 12 x0) (x1 : Int) (h1 : R32 x1) (x2 : Int) (h2 : R32 x2) (M : xM) (hM : xcan M) : Cm l G yX12_first cX12_first 5 (some .boolean) 1 1 0 0 [.ref x0, iv x1, iv x2] M (fX12_first x0 x1 x2 M) := by
  refine xcm_of (u := uX12_first) (ls := [some (.ref x0), some (iv x1), some (iv x2), none, none]) 2 hl rfl (by decide +kernel) (Nat.le_of_ble_eq_true rfl) rfl ?_
  unfold fX12_first
  refine xg_iload_n dX12_first_0 (Eq.refl 1) rfl ?_
  refine xg_iload_n dX12_first_1 (Eq.refl 2) rfl ?_
  refine xg_ixor dX12_first_2 (Eq.refl 3) ?_
  refine xg_istore_n (ls2 := [some (.ref x0), some (iv x1), some (iv x2), some (iv (xxor x1 x2)), none]) dX12_first_3 (Eq.refl 4) (by decide) rfl ?_
  refine xg_iconst dX12_first_4 (Eq.refl 5) ?_
  refine xg_istore (ls2 := [some (.ref x0), some (iv x1), some (iv x2), some (iv (xxor x1 x2)), some (iv 0)]) dX12_first_5 (Eq.refl 7) (by decide) rfl ?_
  exact xg_jump (gX12_first_7 hl x1 h1 (xxor x1 x2) (xxor_r _ _) xN 0 (by decide) M hM) (xsb_n (xsb_s (xsb_n (xsb_s (xsb_s xsb_0))))) (by decide) (by decide)
abbrev uX12_bestSet : xU := (RX12, cX12_bestSet, 7, (some .int), [], "bestSet")
theorem bX12_bestSet : xYV yX12_bestSet cX12_bestSet 7 (some .int) 0 := ⟨xq_831, xq_832, xq_5, xq_833, ⟨by decide +kernel, by decide +kernel, by decide +kernel⟩, by decide⟩
theorem gX12_bestSet_95 {l : Launch} {G : xG} (hl : l.stackTraces = false) (rc4 : Int → Int → xM → xO) (x0 : Nat) (h0 : xOb 12 x0) (x2 : Int) (h2 : R32 x2) (s0 : Int) (hs0 : R32 s0) (hr4 : ∀ w1 : Int, R32 w1 → ∀ w2 : Int, R32 w2 → ∀ M : xM, xcan M → Gv l G uX12_bestSet 5 0 0 0 4 [some (.ref x0), some (iv w1), some (iv w2), none, none, none, none] [] M (rc4 w1 w2 M)) (M : xM) (hM : xcan M) : Gv l G uX12_bestSet 5 0 0 0 95 [some (.ref x0), none, some (iv x2), none, none, none, none] [iv s0] M (fX12_bestSet_95 rc4 x0 x2 s0 M) := by
  unfold fX12_bestSet_95
  refine xg_istore_n (ls2 := [some (.ref x0), some (iv s0), some (iv x2), none, none, none, none]) dX12_bestSet_95 (Eq.refl 96) (by decide) rfl ?_
  refine xg_iinc (ls2 := [some (.ref x0), some (iv s0), some (iv (w32 (x2 + 1))), none, none, none, none]) dX12_bestSet_96 (Eq.refl 99) rfl (by decide) rfl ?_
  refine xg_goto (tgt := 4) dX12_bestSet_99 (by decide) ?_
  exact xg_jump (hr4 s0 hs0 (w32 (x2 + 1)) (w32_r _) M hM) (xsb_s (xsb_s (xsb_s (xsb_n (xsb_n (xsb_n (xsb_n xsb_0))))))) (by decide) (by decide)
theorem gX12_bestSet_94 {l : Launch} {G : xG} (hl : l.stackTraces = false) (rc4 : Int → Int → xM → xO) (x0 : Nat) (h0 : xOb 12 x0) (x1 : Int) (h1 : R32 x1) (x2 : Int) (h2 : R32 x2) (hr4 : ∀ w1 : Int, R32 w1 → ∀ w2 : Int, R32 w2 → ∀ M : xM, xcan M → Gv l G uX12_bestSet 5 0 0 0 4 [some (.ref x0), some (iv w1), some (iv w2), none, none, none, none] [] M (rc4 w1 w2 M)) (M : xM) (hM : xcan M) : Gv l G uX12_bestSet 5 0 0 0 94 [some (.ref x0), some (iv x1), some (iv x2), none, none, none, none] [] M (fX12_bestSet_94 rc4 x0 x1 x2 M) := by
  unfold fX12_bestSet_94
  refine xg_iload_n dX12_bestSet_94 (Eq.refl 95) rfl ?_
  exact xg_jump (gX12_bestSet_95 hl rc4 x0 h0 x2 h2 x1 h1 hr4 M hM) (xsb_s (xsb_n (xsb_s (xsb_n (xsb_n (xsb_n (xsb_n xsb_0))))))) (by decide) (by decide)
theorem gX12_bestSet_75 {l : Launch} {G : xG} (hl : l.stackTraces = false) (rc4 : Int → Int → xM → xO) (x0 : Nat) (h0 : xOb 12 x0) (x1 : Int) (h1 : R32 x1) (x2 : Int) (h2 : R32 x2) (s0 : Int) (hs0 : B01 s0) (hr4 : ∀ w1 : Int, R32 w1 → ∀ w2 : Int, R32 w2 → ∀ M : xM, xcan M → Gv l G uX12_bestSet 5 0 0 0 4 [some (.ref x0), some (iv w1), some (iv w2), none, none, none, none] [] M (rc4 w1 w2 M)) (M : xM) (hM : xcan M) : Gv l G uX12_bestSet 5 0 0 0 75 [some (.ref x0), some (iv x1), some (iv x2), none, none, none, none] [iv s0] M (fX12_bestSet_75 rc4 x0 x1 x2 s0 M) := by
  unfold fX12_bestSet_75
  refine xg_istore (ls2 := [some (.ref x0), some (iv x1), some (iv x2), none, none, none, some (iv s0)]) dX12_bestSet_75 (Eq.refl 77) (by decide) rfl ?_
  refine xg_iload dX12_bestSet_77 (Eq.refl 79) rfl ?_
  refine xg_if_eq (tgt := 94) dX12_bestSet_79 (Eq.refl 82) (by decide) (B01.r hs0) ?_ ?_
  · exact xg_jump (gX12_bestSet_94 hl rc4 x0 h0 x1 h1 x2 h2 hr4 M hM) (xsb_s (xsb_s (xsb_s (xsb_n (xsb_n (xsb_n (xsb_n xsb_0))))))) (by decide) (by decide)
  · refine xg_aload_n dX12_bestSet_82 (Eq.refl 83) rfl ?_
    refine xg_iload_n dX12_bestSet_83 (Eq.refl 84) rfl ?_
    refine xg_callV_Z (kc := 0) (ks := 0) (st := []) (mX12_can hl x0 h0 x2 h2 M hM) bX12_can xcl12 h0 rfl xq_854 rfl (by decide) rfl (by decide) dX12_bestSet_84 (Eq.refl 87) rfl (by decide) (by decide) ?_
    intro z1 M2 hz1 hM2
    refine xg_if_eq (tgt := 94) dX12_bestSet_87 (Eq.refl 90) (by decide) (B01.r hz1) ?_ ?_
    · exact xg_jump (gX12_bestSet_94 hl rc4 x0 h0 x1 h1 x2 h2 hr4 M2 hM2) (xsb_s (xsb_s (xsb_s (xsb_n (xsb_n (xsb_n (xsb_n xsb_0))))))) (by decide) (by decide)
    · refine xg_iload_n dX12_bestSet_90 (Eq.refl 91) rfl ?_
      refine xg_goto (tgt := 95) dX12_bestSet_91 (by decide) ?_
      exact xg_jump (gX12_bestSet_95 hl rc4 x0 h0 x2 h2 x2 h2 hr4 M2 hM2) (xsb_s (xsb_n (xsb_s (xsb_n (xsb_n (xsb_n (xsb_n xsb_0))))))) (by decide) (by decide)
theorem gX12_bestSet_74 {l : Launch} {G : xG} (hl : l.stackTraces = false) (rc4 : Int → Int → xM → xO) (x0 : Nat) (h0 : xOb 12 x0) (x1 : Int) (h1 : R32 x1) (x2 : Int) (h2 : R32 x2) (hr4 : ∀ w1 : Int, R32 w1 → ∀ w2 : Int, R32 w2 → ∀ M : xM, xcan M → Gv l G uX12_bestSet 5 0 0 0 4 [some (.ref x0), some (iv w1), some (iv w2), none, none, none, none] [] M (rc4 w1 w2 M)) (M : xM) (hM : xcan M) : Gv l G uX12_bestSet 5 0 0 0 74 [some (.ref x0), some (iv x1), some (iv x2), none, none, none, none] [] M (fX12_bestSet_74 rc4 x0 x1 x2 M) := by
  unfold fX12_bestSet_74
  refine xg_iconst dX12_bestSet_74 (Eq.refl 75) ?_
  exact xg_jump (gX12_bestSet_75 hl rc4 x0 h0 x1 h1 x2 h2 0 (by decide) hr4 M hM) (xsb_s (xsb_s (xsb_s (xsb_n (xsb_n (xsb_n (xsb_n xsb_0))))))) (by decide) (by decide)
theorem gX12_bestSet_70 {l : Launch} {G : xG} (hl : l.stackTraces = false) (rc4 : Int → Int → xM → xO) (x0 : Nat) (h0 : xOb 12 x0) (x1 : Int) (h1 : R32 x1) (x2 : Int) (h2 : R32 x2) (hr4 : ∀ w1 : Int, R32 w1 → ∀ w2 : Int, R32 w2 → ∀ M : xM, xcan M → Gv l G uX12_bestSet 5 0 0 0 4 [some (.ref x0), some (iv w1), some (iv w2), none, none, none, none] [] M (rc4 w1 w2 M)) (M : xM) (hM : xcan M) : Gv l G uX12_bestSet 5 0 0 0 70 [some (.ref x0), some (iv x1), some (iv x2), none, none, none, none] [] M (fX12_bestSet_70 rc4 x0 x1 x2 M) := by
  unfold fX12_bestSet_70
  refine xg_iconst dX12_bestSet_70 (Eq.refl 71) ?_
  refine xg_goto (tgt := 75) dX12_bestSet_71 (by decide) ?_
  exact xg_jump (gX12_bestSet_75 hl rc4 x0 h0 x1 h1 x2 h2 1 (by decide) hr4 M hM) (xsb_s (xsb_s (xsb_s (xsb_n (xsb_n (xsb_n (xsb_n xsb_0))))))) (by decide) (by decide)
theorem gX12_bestSet_4 {l : Launch} {G : xG} (hl : l.stackTraces = false) (x0 : Nat) (h0 : xOb 12 x0) : ∀ (n : Nat) (x1 : Int) (_ : R32 x1) (x2 : Int) (_ : R32 x2) (M : xM) (_ : xcan M), Gv l G uX12_bestSet 5 0 0 0 4 [some (.ref x0), some (iv x1), some (iv x2), none, none, none, none] [] M (fX12_bestSet_4 x0 n x1 x2 M) := by
  intro n; induction n with
  | zero => intro x1 h1 x2 h2 M hM; exact xg_none
  | succ n ih =>
    intro x1 h1 x2 h2 M hM
    rw [fX12_bestSet_4]
    refine xg_iload_n dX12_bestSet_4 (Eq.refl 5) rfl ?_
    refine xg_iconst dX12_bestSet_5 (Eq.refl 6) ?_
    refine xg_aload_n dX12_bestSet_6 (Eq.refl 7) rfl ?_
    refine xg_getI (k := 5) xcl12 h0 rfl xq_813 rfl dX12_bestSet_7 (Eq.refl 10) ?_
    refine xg_ishl dX12_bestSet_10 (Eq.refl 11) ?_
    refine xg_icmp_ge (tgt := 102) dX12_bestSet_11 (Eq.refl 14) (by decide) h2 (xshl_r _ _) ?_ ?_
    · refine xg_iload_n dX12_bestSet_102 (Eq.refl 103) rfl ?_
      exact xg_iret rfl dX12_bestSet_103 rfl hM h1
    · refine xg_aload_n dX12_bestSet_14 (Eq.refl 15) rfl ?_
      refine xg_iload_n dX12_bestSet_15 (Eq.refl 16) rfl ?_
      refine xg_callV_J (kc := 0) (ks := 0) (st := []) (mX12_worthOf hl x0 h0 x2 h2 M hM) bX12_worthOf xcl12 h0 rfl xq_834 rfl (by decide) rfl (by decide) dX12_bestSet_16 (Eq.refl 19) rfl (by decide) (by decide) ?_
      intro z1 M2 hz1 hM2
      refine xg_aload_n dX12_bestSet_19 (Eq.refl 20) rfl ?_
      refine xg_iload_n dX12_bestSet_20 (Eq.refl 21) rfl ?_
      refine xg_callV_J (kc := 0) (ks := 0) (st := [jv z1]) (mX12_worthOf hl x0 h0 x1 h1 M2 hM2) bX12_worthOf xcl12 h0 rfl xq_834 rfl (by decide) rfl (Nat.le_of_ble_eq_true rfl) dX12_bestSet_21 (Eq.refl 24) rfl (by decide) (by decide) ?_
      intro z3 M4 hz3 hM4
      refine xg_lsub dX12_bestSet_24 (Eq.refl 25) ?_
      refine xg_lstore_nL (P := R64) (ls2 := fun y5 => [some (.ref x0), some (iv x1), some (iv x2), some (jv y5), none, none, none]) dX12_bestSet_25 (Eq.refl 26) (by decide) (w64_r _) (fun _ => rfl) ?_
      intro y5 hy5
      refine xg_aload_n dX12_bestSet_26 (Eq.refl 27) rfl ?_
      refine xg_iload_n dX12_bestSet_27 (Eq.refl 28) rfl ?_
      refine xg_callV_I (kc := 0) (ks := 0) (st := []) (mX12_count hl x0 h0 x2 h2 M4 hM4) bX12_count xcl12 h0 rfl xq_846 rfl (by decide) rfl (by decide) dX12_bestSet_28 (Eq.refl 31) rfl (by decide) (by decide) ?_
      intro z6 M7 hz6 hM7
      refine xg_aload_n dX12_bestSet_31 (Eq.refl 32) rfl ?_
      refine xg_iload_n dX12_bestSet_32 (Eq.refl 33) rfl ?_
      refine xg_callV_I (kc := 0) (ks := 0) (st := [iv z6]) (mX12_count hl x0 h0 x1 h1 M7 hM7) bX12_count xcl12 h0 rfl xq_846 rfl (by decide) rfl (Nat.le_of_ble_eq_true rfl) dX12_bestSet_33 (Eq.refl 36) rfl (by decide) (by decide) ?_
      intro z8 M9 hz8 hM9
      refine xg_isub dX12_bestSet_36 (Eq.refl 37) ?_
      refine xg_istoreL (P := R32) (ls2 := fun y10 => [some (.ref x0), some (iv x1), some (iv x2), some (jv y5), none, some (iv y10), none]) dX12_bestSet_37 (Eq.refl 39) (by decide) (w32_r _) (fun _ => rfl) ?_
      intro y10 hy10
      refine xg_lload_n dX12_bestSet_39 (Eq.refl 40) rfl ?_
      refine xg_lconst (z := 0) dX12_bestSet_40 (Eq.refl 41) rfl ?_
      refine xg_lif_gt (tgt := 70) dX12_bestSet_41 (Eq.refl 42) dX12_bestSet_42 (Eq.refl 45) (by decide) hy5 (by decide) ?_ ?_
      · exact xg_jump (gX12_bestSet_70 hl (fX12_bestSet_4 x0 n) x0 h0 x1 h1 x2 h2 ih M9 hM9) (xsb_s (xsb_s (xsb_s (xsb_n (xsb_n (xsb_n (xsb_n xsb_0))))))) (by decide) (by decide)
      · refine xg_lload_n dX12_bestSet_45 (Eq.refl 46) rfl ?_
        refine xg_lconst (z := 0) dX12_bestSet_46 (Eq.refl 47) rfl ?_
        refine xg_lif_ne (tgt := 74) dX12_bestSet_47 (Eq.refl 48) dX12_bestSet_48 (Eq.refl 51) (by decide) hy5 (by decide) ?_ ?_
        · refine xg_iload dX12_bestSet_51 (Eq.refl 53) rfl ?_
          refine xg_if_gt (tgt := 70) dX12_bestSet_53 (Eq.refl 56) (by decide) hy10 ?_ ?_
          · exact xg_jump (gX12_bestSet_70 hl (fX12_bestSet_4 x0 n) x0 h0 x1 h1 x2 h2 ih M9 hM9) (xsb_s (xsb_s (xsb_s (xsb_n (xsb_n (xsb_n (xsb_n xsb_0))))))) (by decide) (by decide)
          · refine xg_iload dX12_bestSet_56 (Eq.refl 58) rfl ?_
            refine xg_if_ne (tgt := 74) dX12_bestSet_58 (Eq.refl 61) (by decide) hy10 ?_ ?_
            · refine xg_aload_n dX12_bestSet_61 (Eq.refl 62) rfl ?_
              refine xg_iload_n dX12_bestSet_62 (Eq.refl 63) rfl ?_
              refine xg_iload_n dX12_bestSet_63 (Eq.refl 64) rfl ?_
              refine xg_callV_Z (kc := 0) (ks := 0) (st := []) (mX12_first hl x0 h0 x2 h2 x1 h1 M9 hM9) bX12_first xcl12 h0 rfl xq_850 rfl (by decide) rfl (by decide) dX12_bestSet_64 (Eq.refl 67) rfl (by decide) (by decide) ?_
              intro z11 M12 hz11 hM12
              refine xg_if_eq (tgt := 74) dX12_bestSet_67 (Eq.refl 70) (by decide) (B01.r hz11) ?_ ?_
              · exact xg_jump (gX12_bestSet_74 hl (fX12_bestSet_4 x0 n) x0 h0 x1 h1 x2 h2 ih M12 hM12) (xsb_s (xsb_s (xsb_s (xsb_n (xsb_n (xsb_n (xsb_n xsb_0))))))) (by decide) (by decide)
              · exact xg_jump (gX12_bestSet_70 hl (fX12_bestSet_4 x0 n) x0 h0 x1 h1 x2 h2 ih M12 hM12) (xsb_s (xsb_s (xsb_s (xsb_n (xsb_n (xsb_n (xsb_n xsb_0))))))) (by decide) (by decide)
            · exact xg_jump (gX12_bestSet_74 hl (fX12_bestSet_4 x0 n) x0 h0 x1 h1 x2 h2 ih M9 hM9) (xsb_s (xsb_s (xsb_s (xsb_n (xsb_n (xsb_n (xsb_n xsb_0))))))) (by decide) (by decide)
        · exact xg_jump (gX12_bestSet_74 hl (fX12_bestSet_4 x0 n) x0 h0 x1 h1 x2 h2 ih M9 hM9) (xsb_s (xsb_s (xsb_s (xsb_n (xsb_n (xsb_n (xsb_n xsb_0))))))) (by decide) (by decide)
theorem mX12_bestSet {l : Launch} {G : xG} (hl : l.stackTraces = false) (x0 : Nat) (h0 : xOb 12 x0) (M : xM) (hM : xcan M) : Cm l G yX12_bestSet cX12_bestSet 7 (some .int) 5 0 0 0 [.ref x0] M (fX12_bestSet x0 M) := by
  refine xcm_of (u := uX12_bestSet) (ls := [some (.ref x0), none, none, none, none, none, none]) 6 hl rfl (by decide +kernel) (Nat.le_of_ble_eq_true rfl) rfl ?_
  unfold fX12_bestSet
  refine xg_iconst dX12_bestSet_0 (Eq.refl 1) ?_
  refine xg_istore_n (ls2 := [some (.ref x0), some (iv 0), none, none, none, none, none]) dX12_bestSet_1 (Eq.refl 2) (by decide) rfl ?_
  refine xg_iconst dX12_bestSet_2 (Eq.refl 3) ?_
  refine xg_istore_n (ls2 := [some (.ref x0), some (iv 0), some (iv 1), none, none, none, none]) dX12_bestSet_3 (Eq.refl 4) (by decide) rfl ?_
  exact xg_jump (gX12_bestSet_4 hl x0 h0 xN 0 (by decide) 1 (by decide) M hM) (xsb_s (xsb_s (xsb_s (xsb_n (xsb_n (xsb_n (xsb_n xsb_0))))))) (by decide) (by decide)
abbrev uX12_giveBack : xU := (RX12, cX12_giveBack, 4, none, [], "giveBack")
theorem bX12_giveBack : xYV yX12_giveBack cX12_giveBack 4 none 0 := ⟨xq_815, xq_816, xq_5, xq_817, ⟨by decide +kernel, by decide +kernel, by decide +kernel⟩, by decide⟩
theorem gX12_giveBack_172 {l : Launch} {G : xG} (hl : l.stackTraces = false) (rc2 : Int → xM → xO) (x0 : Nat) (h0 : xOb 12 x0) (x1 : Int) (h1 : R32 x1) (hr2 : ∀ w1 : Int, R32 w1 → ∀ M : xM, xcan M → Gv l G uX12_giveBack 2 3 0 0 2 [some (.ref x0), some (iv w1), none, none] [] M (rc2 w1 M)) (M : xM) (hM : xcan M) : Gv l G uX12_giveBack 2 3 0 0 172 [some (.ref x0), some (iv x1), none, none] [] M (fX12_giveBack_172 rc2 x0 x1 M) := by
  unfold fX12_giveBack_172
  refine xg_iinc (ls2 := [some (.ref x0), some (iv (w32 (x1 + 1))), none, none]) dX12_giveBack_172 (Eq.refl 175) rfl (by decide) rfl ?_
  refine xg_goto (tgt := 2) dX12_giveBack_175 (by decide) ?_
  exact xg_jump (hr2 (w32 (x1 + 1)) (w32_r _) M hM) (xsb_s (xsb_s (xsb_n (xsb_n xsb_0)))) (by decide) (by decide)
theorem gX12_giveBack_2 {l : Launch} {G : xG} (hl : l.stackTraces = false) (x0 : Nat) (h0 : xOb 12 x0) : ∀ (n : Nat) (x1 : Int) (_ : R32 x1) (M : xM) (_ : xcan M), Gv l G uX12_giveBack 2 3 0 0 2 [some (.ref x0), some (iv x1), none, none] [] M (fX12_giveBack_2 x0 n x1 M) := by
  intro n; induction n with
  | zero => intro x1 h1 M hM; exact xg_none
  | succ n ih =>
    intro x1 h1 M hM
    rw [fX12_giveBack_2]
    refine xg_iload_n dX12_giveBack_2 (Eq.refl 3) rfl ?_
    refine xg_i2l dX12_giveBack_3 (Eq.refl 4) h1 ?_
    refine xg_aload_n dX12_giveBack_4 (Eq.refl 5) rfl ?_
    refine xg_getR (k := 0) xcl12 h0 rfl xq_122 rfl (xt_12_0 h0).1 dX12_giveBack_5 (Eq.refl 8) ?_
    refine xg_sipush dX12_giveBack_8 (Eq.refl 11) (by decide +kernel) ?_
    refine xg_laldk (k := 1545) (xt_12_0 h0).2 dX12_giveBack_11 (Eq.refl 12) rfl (by decide) ?_
    refine xg_lif_ge (tgt := 178) dX12_giveBack_12 (Eq.refl 13) dX12_giveBack_13 (Eq.refl 16) (by decide) (R32.j h1) (hM.aj (xt_12_0 h0).2) ?_ ?_
    · exact xg_vret rfl dX12_giveBack_178 rfl hM
    · refine xg_aload_n dX12_giveBack_16 (Eq.refl 17) rfl ?_
      refine xg_getR (k := 0) xcl12 h0 rfl xq_122 rfl (xt_12_0 h0).1 dX12_giveBack_17 (Eq.refl 20) ?_
      refine xg_sipush dX12_giveBack_20 (Eq.refl 23) (by decide +kernel) ?_
      refine xg_iload_n dX12_giveBack_23 (Eq.refl 24) rfl ?_
      refine xg_iadd dX12_giveBack_24 (Eq.refl 25) ?_
      refine xg_lald (xt_12_0 h0).2 dX12_giveBack_25 (Eq.refl 26) ?_
      refine xg_l2i dX12_giveBack_26 (Eq.refl 27) ?_
      refine xg_istore_nL (P := R32) (ls2 := fun y1 => [some (.ref x0), some (iv x1), some (iv y1), none]) dX12_giveBack_27 (Eq.refl 28) (by decide) (w32_r _) (fun _ => rfl) ?_
      intro y1 hy1
      refine xg_aload_n dX12_giveBack_28 (Eq.refl 29) rfl ?_
      refine xg_getR (k := 0) xcl12 h0 rfl xq_122 rfl (xt_12_0 h0).1 dX12_giveBack_29 (Eq.refl 32) ?_
      refine xg_sipush dX12_giveBack_32 (Eq.refl 35) (by decide +kernel) ?_
      refine xg_iload_n dX12_giveBack_35 (Eq.refl 36) rfl ?_
      refine xg_iadd dX12_giveBack_36 (Eq.refl 37) ?_
      refine xg_lald (xt_12_0 h0).2 dX12_giveBack_37 (Eq.refl 38) ?_
      refine xg_l2i dX12_giveBack_38 (Eq.refl 39) ?_
      refine xg_istore_nL (P := R32) (ls2 := fun y2 => [some (.ref x0), some (iv x1), some (iv y1), some (iv y2)]) dX12_giveBack_39 (Eq.refl 40) (by decide) (w32_r _) (fun _ => rfl) ?_
      intro y2 hy2
      refine xg_aload_n dX12_giveBack_40 (Eq.refl 41) rfl ?_
      refine xg_getR (k := 0) xcl12 h0 rfl xq_122 rfl (xt_12_0 h0).1 dX12_giveBack_41 (Eq.refl 44) ?_
      refine xg_sipush dX12_giveBack_44 (Eq.refl 47) (by decide +kernel) ?_
      refine xg_iload_n dX12_giveBack_47 (Eq.refl 48) rfl ?_
      refine xg_iadd dX12_giveBack_48 (Eq.refl 49) ?_
      refine xg_lald (xt_12_0 h0).2 dX12_giveBack_49 (Eq.refl 50) ?_
      refine xg_lconst (z := 0) dX12_giveBack_50 (Eq.refl 51) rfl ?_
      refine xg_lif_lt (tgt := 172) dX12_giveBack_51 (Eq.refl 52) dX12_giveBack_52 (Eq.refl 55) (by decide) (hM.aj (xt_12_0 h0).2) (by decide) ?_ ?_
      · exact xg_jump (gX12_giveBack_172 hl (fX12_giveBack_2 x0 n) x0 h0 x1 h1 ih M hM) (xsb_s (xsb_s (xsb_n (xsb_n xsb_0)))) (by decide) (by decide)
      · refine xg_aload_n dX12_giveBack_55 (Eq.refl 56) rfl ?_
        refine xg_iload_n dX12_giveBack_56 (Eq.refl 57) rfl ?_
        refine xg_iload_n dX12_giveBack_57 (Eq.refl 58) rfl ?_
        refine xg_callV_J (kc := 0) (ks := 0) (st := []) (mX12_freeOf hl x0 h0 y1 hy1 y2 hy2 M hM) bX12_freeOf xcl12 h0 rfl xq_370 rfl (by decide) rfl (by decide) dX12_giveBack_58 (Eq.refl 61) rfl (by decide) (by decide) ?_
        intro z3 M4 hz3 hM4
        refine xg_aload_n dX12_giveBack_61 (Eq.refl 62) rfl ?_
        refine xg_getR (k := 0) xcl12 h0 rfl xq_122 rfl (xt_12_0 h0).1 dX12_giveBack_62 (Eq.refl 65) ?_
        refine xg_sipush dX12_giveBack_65 (Eq.refl 68) (by decide +kernel) ?_
        refine xg_iload_n dX12_giveBack_68 (Eq.refl 69) rfl ?_
        refine xg_iadd dX12_giveBack_69 (Eq.refl 70) ?_
        refine xg_lald (xt_12_0 h0).2 dX12_giveBack_70 (Eq.refl 71) ?_
        refine xg_lif_lt (tgt := 172) dX12_giveBack_71 (Eq.refl 72) dX12_giveBack_72 (Eq.refl 75) (by decide) hz3 (hM4.aj (xt_12_0 h0).2) ?_ ?_
        · exact xg_jump (gX12_giveBack_172 hl (fX12_giveBack_2 x0 n) x0 h0 x1 h1 ih M4 hM4) (xsb_s (xsb_s (xsb_n (xsb_n xsb_0)))) (by decide) (by decide)
        · refine xg_aload_n dX12_giveBack_75 (Eq.refl 76) rfl ?_
          refine xg_getR (k := 0) xcl12 h0 rfl xq_122 rfl (xt_12_0 h0).1 dX12_giveBack_76 (Eq.refl 79) ?_
          refine xg_bipush dX12_giveBack_79 (Eq.refl 81) (by decide +kernel) ?_
          refine xg_iconst dX12_giveBack_81 (Eq.refl 82) ?_
          refine xg_iload_n dX12_giveBack_82 (Eq.refl 83) rfl ?_
          refine xg_imul dX12_giveBack_83 (Eq.refl 84) ?_
          refine xg_iadd dX12_giveBack_84 (Eq.refl 85) ?_
          refine xg_iload_n dX12_giveBack_85 (Eq.refl 86) rfl ?_
          refine xg_iadd dX12_giveBack_86 (Eq.refl 87) ?_
          refine xg_dup2 dX12_giveBack_87 (Eq.refl 88) rfl rfl ?_
          refine xg_lald (xt_12_0 h0).2 dX12_giveBack_88 (Eq.refl 89) ?_
          refine xg_aload_n dX12_giveBack_89 (Eq.refl 90) rfl ?_
          refine xg_getR (k := 0) xcl12 h0 rfl xq_122 rfl (xt_12_0 h0).1 dX12_giveBack_90 (Eq.refl 93) ?_
          refine xg_sipush dX12_giveBack_93 (Eq.refl 96) (by decide +kernel) ?_
          refine xg_iload_n dX12_giveBack_96 (Eq.refl 97) rfl ?_
          refine xg_iadd dX12_giveBack_97 (Eq.refl 98) ?_
          refine xg_lald (xt_12_0 h0).2 dX12_giveBack_98 (Eq.refl 99) ?_
          refine xg_lsub dX12_giveBack_99 (Eq.refl 100) ?_
          refine xg_last (xt_12_0 h0).2 dX12_giveBack_100 (Eq.refl 101) hM4 (w64_r _) ?_
          intro M5 hM5
          refine xg_aload_n dX12_giveBack_101 (Eq.refl 102) rfl ?_
          refine xg_getR (k := 0) xcl12 h0 rfl xq_122 rfl (xt_12_0 h0).1 dX12_giveBack_102 (Eq.refl 105) ?_
          refine xg_bipush dX12_giveBack_105 (Eq.refl 107) (by decide +kernel) ?_
          refine xg_iconst dX12_giveBack_107 (Eq.refl 108) ?_
          refine xg_aload_n dX12_giveBack_108 (Eq.refl 109) rfl ?_
          refine xg_getR (k := 0) xcl12 h0 rfl xq_122 rfl (xt_12_0 h0).1 dX12_giveBack_109 (Eq.refl 112) ?_
          refine xg_sipush dX12_giveBack_112 (Eq.refl 115) (by decide +kernel) ?_
          refine xg_iload_n dX12_giveBack_115 (Eq.refl 116) rfl ?_
          refine xg_iadd dX12_giveBack_116 (Eq.refl 117) ?_
          refine xg_lald (xt_12_0 h0).2 dX12_giveBack_117 (Eq.refl 118) ?_
          refine xg_l2i dX12_giveBack_118 (Eq.refl 119) ?_
          refine xg_imul dX12_giveBack_119 (Eq.refl 120) ?_
          refine xg_iadd dX12_giveBack_120 (Eq.refl 121) ?_
          refine xg_iload_n dX12_giveBack_121 (Eq.refl 122) rfl ?_
          refine xg_iadd dX12_giveBack_122 (Eq.refl 123) ?_
          refine xg_dup2 dX12_giveBack_123 (Eq.refl 124) rfl rfl ?_
          refine xg_lald (xt_12_0 h0).2 dX12_giveBack_124 (Eq.refl 125) ?_
          refine xg_aload_n dX12_giveBack_125 (Eq.refl 126) rfl ?_
          refine xg_getR (k := 0) xcl12 h0 rfl xq_122 rfl (xt_12_0 h0).1 dX12_giveBack_126 (Eq.refl 129) ?_
          refine xg_sipush dX12_giveBack_129 (Eq.refl 132) (by decide +kernel) ?_
          refine xg_iload_n dX12_giveBack_132 (Eq.refl 133) rfl ?_
          refine xg_iadd dX12_giveBack_133 (Eq.refl 134) ?_
          refine xg_lald (xt_12_0 h0).2 dX12_giveBack_134 (Eq.refl 135) ?_
          refine xg_ladd dX12_giveBack_135 (Eq.refl 136) ?_
          refine xg_last (xt_12_0 h0).2 dX12_giveBack_136 (Eq.refl 137) hM5 (w64_r _) ?_
          intro M6 hM6
          refine xg_aload_n dX12_giveBack_137 (Eq.refl 138) rfl ?_
          refine xg_getR (k := 0) xcl12 h0 rfl xq_122 rfl (xt_12_0 h0).1 dX12_giveBack_138 (Eq.refl 141) ?_
          refine xg_bipush dX12_giveBack_141 (Eq.refl 143) (by decide +kernel) ?_
          refine xg_iload_n dX12_giveBack_143 (Eq.refl 144) rfl ?_
          refine xg_iadd dX12_giveBack_144 (Eq.refl 145) ?_
          refine xg_dup2 dX12_giveBack_145 (Eq.refl 146) rfl rfl ?_
          refine xg_lald (xt_12_0 h0).2 dX12_giveBack_146 (Eq.refl 147) ?_
          refine xg_aload_n dX12_giveBack_147 (Eq.refl 148) rfl ?_
          refine xg_getR (k := 0) xcl12 h0 rfl xq_122 rfl (xt_12_0 h0).1 dX12_giveBack_148 (Eq.refl 151) ?_
          refine xg_sipush dX12_giveBack_151 (Eq.refl 154) (by decide +kernel) ?_
          refine xg_iload_n dX12_giveBack_154 (Eq.refl 155) rfl ?_
          refine xg_iadd dX12_giveBack_155 (Eq.refl 156) ?_
          refine xg_lald (xt_12_0 h0).2 dX12_giveBack_156 (Eq.refl 157) ?_
          refine xg_lsub dX12_giveBack_157 (Eq.refl 158) ?_
          refine xg_last (xt_12_0 h0).2 dX12_giveBack_158 (Eq.refl 159) hM6 (w64_r _) ?_
          intro M7 hM7
          refine xg_aload_n dX12_giveBack_159 (Eq.refl 160) rfl ?_
          refine xg_getR (k := 0) xcl12 h0 rfl xq_122 rfl (xt_12_0 h0).1 dX12_giveBack_160 (Eq.refl 163) ?_
          refine xg_sipush dX12_giveBack_163 (Eq.refl 166) (by decide +kernel) ?_
          refine xg_iload_n dX12_giveBack_166 (Eq.refl 167) rfl ?_
          refine xg_iadd dX12_giveBack_167 (Eq.refl 168) ?_
          refine xg_ldc2 (z := (-1)) xq_320 dX12_giveBack_168 (Eq.refl 171) (by decide +kernel) ?_
          refine xg_last (xt_12_0 h0).2 dX12_giveBack_171 (Eq.refl 172) hM7 (by decide) ?_
          intro M8 hM8
          exact xg_jump (gX12_giveBack_172 hl (fX12_giveBack_2 x0 n) x0 h0 x1 h1 ih M8 hM8) (xsb_s (xsb_s (xsb_n (xsb_n xsb_0)))) (by decide) (by decide)
theorem mX12_giveBack {l : Launch} {G : xG} (hl : l.stackTraces = false) (x0 : Nat) (h0 : xOb 12 x0) (M : xM) (hM : xcan M) : Cm l G yX12_giveBack cX12_giveBack 4 none 2 3 0 0 [.ref x0] M (fX12_giveBack x0 M) := by
  refine xcm_of (u := uX12_giveBack) (ls := [some (.ref x0), none, none, none]) 3 hl rfl (by decide +kernel) (Nat.le_of_ble_eq_true rfl) rfl ?_
  unfold fX12_giveBack
  refine xg_iconst dX12_giveBack_0 (Eq.refl 1) ?_
  refine xg_istore_n (ls2 := [some (.ref x0), some (iv 0), none, none]) dX12_giveBack_1 (Eq.refl 2) (by decide) rfl ?_
  exact xg_jump (gX12_giveBack_2 hl x0 h0 xN 0 (by decide) M hM) (xsb_s (xsb_s (xsb_n (xsb_n xsb_0)))) (by decide) (by decide)
