abbrev uX12_issue : xU := (RX12, cX12_issue, 8, (some .int), [], "issue")
theorem bX12_issue : xYV yX12_issue cX12_issue 8 (some .int) 5 := ⟨xq_271, xq_272, xq_5, xq_273, ⟨by decide +kernel, by decide +kernel, by decide +kernel⟩, by decide⟩
theorem gX12_issue_103 {l : Launch} {G : xG} (hl : l.stackTraces = false) (x0 : Nat) (h0 : xOb 12 x0) (x1 : Int) (h1 : R32 x1) (x2 : Int) (h2 : R32 x2) (x3 : Int) (h3 : R32 x3) (x4 : Int) (h4 : R32 x4) (x5 : Int) (h5 : R32 x5) (s0 : Int) (hs0 : R32 s0) (s1 : Nat) (hs1 : xOb 12 s1) (M : xM) (hM : xcan M) : Gv l G uX12_issue 3 0 0 0 103 [some (.ref x0), some (iv x1), some (iv x2), some (iv x3), some (iv x4), some (iv x5), none, none] [iv s0, .ref s1] M (fX12_issue_103 x0 x1 x2 x3 x4 x5 s0 s1 M) := by
  unfold fX12_issue_103
  refine xg_callV_Z (kc := 0) (ks := 0) (st := []) (mX12_holds hl s1 hs1 s0 hs0 M hM) bX12_holds xcl12 hs1 rfl xq_187 rfl (by decide) rfl (by decide) dX12_issue_103 (Eq.refl 106) rfl (by decide) (by decide) ?_
  intro z1 M2 hz1 hM2
  refine xg_if_eq (tgt := 111) dX12_issue_106 (Eq.refl 109) (by decide) (B01.r hz1) ?_ ?_
  · refine xg_aload_n dX12_issue_111 (Eq.refl 112) rfl ?_
    refine xg_getR (k := 0) xcl12 h0 rfl xq_122 rfl (xt_12_0 h0).1 dX12_issue_112 (Eq.refl 115) ?_
    refine xg_sipush dX12_issue_115 (Eq.refl 118) (by decide +kernel) ?_
    refine xg_laldk (k := 1541) (xt_12_0 h0).2 dX12_issue_118 (Eq.refl 119) rfl (by decide) ?_
    refine xg_l2i dX12_issue_119 (Eq.refl 120) ?_
    refine xg_istoreL (P := R32) (ls2 := fun y3 => [some (.ref x0), some (iv x1), some (iv x2), some (iv x3), some (iv x4), some (iv x5), none, some (iv y3)]) dX12_issue_120 (Eq.refl 122) (by decide) (w32_r _) (fun _ => rfl) ?_
    intro y3 hy3
    refine xg_aload_n dX12_issue_122 (Eq.refl 123) rfl ?_
    refine xg_getR (k := 0) xcl12 h0 rfl xq_122 rfl (xt_12_0 h0).1 dX12_issue_123 (Eq.refl 126) ?_
    refine xg_sipush dX12_issue_126 (Eq.refl 129) (by decide +kernel) ?_
    refine xg_iload dX12_issue_129 (Eq.refl 131) rfl ?_
    refine xg_iadd dX12_issue_131 (Eq.refl 132) ?_
    refine xg_iload_n dX12_issue_132 (Eq.refl 133) rfl ?_
    refine xg_i2l dX12_issue_133 (Eq.refl 134) h2 ?_
    refine xg_last (xt_12_0 h0).2 dX12_issue_134 (Eq.refl 135) hM2 (R32.j h2) ?_
    intro M4 hM4
    refine xg_aload_n dX12_issue_135 (Eq.refl 136) rfl ?_
    refine xg_getR (k := 0) xcl12 h0 rfl xq_122 rfl (xt_12_0 h0).1 dX12_issue_136 (Eq.refl 139) ?_
    refine xg_sipush dX12_issue_139 (Eq.refl 142) (by decide +kernel) ?_
    refine xg_iload dX12_issue_142 (Eq.refl 144) rfl ?_
    refine xg_iadd dX12_issue_144 (Eq.refl 145) ?_
    refine xg_iload dX12_issue_145 (Eq.refl 147) rfl ?_
    refine xg_i2l dX12_issue_147 (Eq.refl 148) h4 ?_
    refine xg_last (xt_12_0 h0).2 dX12_issue_148 (Eq.refl 149) hM4 (R32.j h4) ?_
    intro M5 hM5
    refine xg_aload_n dX12_issue_149 (Eq.refl 150) rfl ?_
    refine xg_getR (k := 0) xcl12 h0 rfl xq_122 rfl (xt_12_0 h0).1 dX12_issue_150 (Eq.refl 153) ?_
    refine xg_sipush dX12_issue_153 (Eq.refl 156) (by decide +kernel) ?_
    refine xg_iload dX12_issue_156 (Eq.refl 158) rfl ?_
    refine xg_iadd dX12_issue_158 (Eq.refl 159) ?_
    refine xg_iload dX12_issue_159 (Eq.refl 161) rfl ?_
    refine xg_i2l dX12_issue_161 (Eq.refl 162) h5 ?_
    refine xg_last (xt_12_0 h0).2 dX12_issue_162 (Eq.refl 163) hM5 (R32.j h5) ?_
    intro M6 hM6
    refine xg_aload_n dX12_issue_163 (Eq.refl 164) rfl ?_
    refine xg_getR (k := 0) xcl12 h0 rfl xq_122 rfl (xt_12_0 h0).1 dX12_issue_164 (Eq.refl 167) ?_
    refine xg_sipush dX12_issue_167 (Eq.refl 170) (by decide +kernel) ?_
    refine xg_iload dX12_issue_170 (Eq.refl 172) rfl ?_
    refine xg_iadd dX12_issue_172 (Eq.refl 173) ?_
    refine xg_iload_n dX12_issue_173 (Eq.refl 174) rfl ?_
    refine xg_i2l dX12_issue_174 (Eq.refl 175) h3 ?_
    refine xg_last (xt_12_0 h0).2 dX12_issue_175 (Eq.refl 176) hM6 (R32.j h3) ?_
    intro M7 hM7
    refine xg_aload_n dX12_issue_176 (Eq.refl 177) rfl ?_
    refine xg_getR (k := 0) xcl12 h0 rfl xq_122 rfl (xt_12_0 h0).1 dX12_issue_177 (Eq.refl 180) ?_
    refine xg_bipush dX12_issue_180 (Eq.refl 182) (by decide +kernel) ?_
    refine xg_iconst dX12_issue_182 (Eq.refl 183) ?_
    refine xg_iload_n dX12_issue_183 (Eq.refl 184) rfl ?_
    refine xg_imul dX12_issue_184 (Eq.refl 185) ?_
    refine xg_iadd dX12_issue_185 (Eq.refl 186) ?_
    refine xg_iload dX12_issue_186 (Eq.refl 188) rfl ?_
    refine xg_iadd dX12_issue_188 (Eq.refl 189) ?_
    refine xg_iload_n dX12_issue_189 (Eq.refl 190) rfl ?_
    refine xg_i2l dX12_issue_190 (Eq.refl 191) h3 ?_
    refine xg_last (xt_12_0 h0).2 dX12_issue_191 (Eq.refl 192) hM7 (R32.j h3) ?_
    intro M8 hM8
    refine xg_aload_n dX12_issue_192 (Eq.refl 193) rfl ?_
    refine xg_getR (k := 0) xcl12 h0 rfl xq_122 rfl (xt_12_0 h0).1 dX12_issue_193 (Eq.refl 196) ?_
    refine xg_sipush dX12_issue_196 (Eq.refl 199) (by decide +kernel) ?_
    refine xg_dup2 dX12_issue_199 (Eq.refl 200) rfl rfl ?_
    refine xg_laldk (k := 1541) (xt_12_0 h0).2 dX12_issue_200 (Eq.refl 201) rfl (by decide) ?_
    refine xg_lconst (z := 1) dX12_issue_201 (Eq.refl 202) rfl ?_
    refine xg_ladd dX12_issue_202 (Eq.refl 203) ?_
    refine xg_lastk (k := 1541) (xt_12_0 h0).2 dX12_issue_203 (Eq.refl 204) rfl (by decide) hM8 (w64_r _) ?_
    intro M9 hM9
    refine xg_iload dX12_issue_204 (Eq.refl 206) rfl ?_
    exact xg_iret rfl dX12_issue_206 rfl hM9 hy3
  · refine xg_iconst dX12_issue_109 (Eq.refl 110) ?_
    exact xg_iret rfl dX12_issue_110 rfl hM2 (by decide)
theorem gX12_issue_59 {l : Launch} {G : xG} (hl : l.stackTraces = false) (x0 : Nat) (h0 : xOb 12 x0) (x1 : Int) (h1 : R32 x1) (x2 : Int) (h2 : R32 x2) (x3 : Int) (h3 : R32 x3) (x4 : Int) (h4 : R32 x4) (x5 : Int) (h5 : R32 x5) (s0 : Int) (hs0 : B01 s0) (M : xM) (hM : xcan M) : Gv l G uX12_issue 3 0 0 0 59 [some (.ref x0), some (iv x1), some (iv x2), some (iv x3), some (iv x4), some (iv x5), none, none] [iv s0] M (fX12_issue_59 x0 x1 x2 x3 x4 x5 s0 M) := by
  unfold fX12_issue_59
  refine xg_istore (ls2 := [some (.ref x0), some (iv x1), some (iv x2), some (iv x3), some (iv x4), some (iv x5), some (iv s0), none]) dX12_issue_59 (Eq.refl 61) (by decide) rfl ?_
  refine xg_aload_n dX12_issue_61 (Eq.refl 62) rfl ?_
  refine xg_aload_n dX12_issue_62 (Eq.refl 63) rfl ?_
  refine xg_iload_n dX12_issue_63 (Eq.refl 64) rfl ?_
  refine xg_callV_Z (kc := 0) (ks := 0) (st := [.ref x0]) (mX12_isAccount hl x0 h0 x1 h1 M hM) bX12_isAccount xcl12 h0 rfl xq_183 rfl (by decide) rfl (Nat.le_of_ble_eq_true rfl) dX12_issue_64 (Eq.refl 67) rfl (by decide) (by decide) ?_
  intro z1 M2 hz1 hM2
  refine xg_if_ne (tgt := 74) dX12_issue_67 (Eq.refl 70) (by decide) (B01.r hz1) ?_ ?_
  · refine xg_iconst dX12_issue_70 (Eq.refl 71) ?_
    refine xg_goto (tgt := 103) dX12_issue_71 (by decide) ?_
    exact xg_jump (gX12_issue_103 hl x0 h0 x1 h1 x2 h2 x3 h3 x4 h4 x5 h5 1 (by decide) x0 h0 M2 hM2) (xsb_s (xsb_s (xsb_s (xsb_s (xsb_s (xsb_s (xsb_n (xsb_n xsb_0)))))))) (by decide) (by decide)
  · refine xg_iload dX12_issue_74 (Eq.refl 76) rfl ?_
    refine xg_if_ne (tgt := 83) dX12_issue_76 (Eq.refl 79) (by decide) (B01.r hs0) ?_ ?_
    · refine xg_iconst dX12_issue_79 (Eq.refl 80) ?_
      refine xg_goto (tgt := 103) dX12_issue_80 (by decide) ?_
      exact xg_jump (gX12_issue_103 hl x0 h0 x1 h1 x2 h2 x3 h3 x4 h4 x5 h5 2 (by decide) x0 h0 M2 hM2) (xsb_s (xsb_s (xsb_s (xsb_s (xsb_s (xsb_s (xsb_n (xsb_n xsb_0)))))))) (by decide) (by decide)
    · refine xg_aload_n dX12_issue_83 (Eq.refl 84) rfl ?_
      refine xg_getR (k := 0) xcl12 h0 rfl xq_122 rfl (xt_12_0 h0).1 dX12_issue_84 (Eq.refl 87) ?_
      refine xg_sipush dX12_issue_87 (Eq.refl 90) (by decide +kernel) ?_
      refine xg_laldk (k := 1541) (xt_12_0 h0).2 dX12_issue_90 (Eq.refl 91) rfl (by decide) ?_
      refine xg_ldc2 (z := 4) xq_277 dX12_issue_91 (Eq.refl 94) (by decide +kernel) ?_
      refine xg_lif_ne (tgt := 102) dX12_issue_94 (Eq.refl 95) dX12_issue_95 (Eq.refl 98) (by decide) (hM2.aj (xt_12_0 h0).2) (by decide) ?_ ?_
      · refine xg_iconst dX12_issue_98 (Eq.refl 99) ?_
        refine xg_goto (tgt := 103) dX12_issue_99 (by decide) ?_
        exact xg_jump (gX12_issue_103 hl x0 h0 x1 h1 x2 h2 x3 h3 x4 h4 x5 h5 3 (by decide) x0 h0 M2 hM2) (xsb_s (xsb_s (xsb_s (xsb_s (xsb_s (xsb_s (xsb_n (xsb_n xsb_0)))))))) (by decide) (by decide)
      · refine xg_iconst dX12_issue_102 (Eq.refl 103) ?_
        exact xg_jump (gX12_issue_103 hl x0 h0 x1 h1 x2 h2 x3 h3 x4 h4 x5 h5 0 (by decide) x0 h0 M2 hM2) (xsb_s (xsb_s (xsb_s (xsb_s (xsb_s (xsb_s (xsb_n (xsb_n xsb_0)))))))) (by decide) (by decide)
theorem gX12_issue_58 {l : Launch} {G : xG} (hl : l.stackTraces = false) (x0 : Nat) (h0 : xOb 12 x0) (x1 : Int) (h1 : R32 x1) (x2 : Int) (h2 : R32 x2) (x3 : Int) (h3 : R32 x3) (x4 : Int) (h4 : R32 x4) (x5 : Int) (h5 : R32 x5) (M : xM) (hM : xcan M) : Gv l G uX12_issue 3 0 0 0 58 [some (.ref x0), some (iv x1), some (iv x2), some (iv x3), some (iv x4), some (iv x5), none, none] [] M (fX12_issue_58 x0 x1 x2 x3 x4 x5 M) := by
  unfold fX12_issue_58
  refine xg_iconst dX12_issue_58 (Eq.refl 59) ?_
  exact xg_jump (gX12_issue_59 hl x0 h0 x1 h1 x2 h2 x3 h3 x4 h4 x5 h5 0 (by decide) M hM) (xsb_s (xsb_s (xsb_s (xsb_s (xsb_s (xsb_s (xsb_n (xsb_n xsb_0)))))))) (by decide) (by decide)
theorem mX12_issue {l : Launch} {G : xG} (hl : l.stackTraces = false) (x0 : Nat) (h0 : xOb 12 x0) (x1 : Int) (h1 : R32 x1) (x2 : Int) (h2 : R32 x2) (x3 : Int) (h3 : R32 x3) (x4 : Int) (h4 : R32 x4) (x5 : Int) (h5 : R32 x5) (M : xM) (hM : xcan M) : Cm l G yX12_issue cX12_issue 8 (some .int) 3 0 0 0 [.ref x0, iv x1, iv x2, iv x3, iv x4, iv x5] M (fX12_issue x0 x1 x2 x3 x4 x5 M) := by
  refine xcm_of (u := uX12_issue) (ls := [some (.ref x0), some (iv x1), some (iv x2), some (iv x3), some (iv x4), some (iv x5), none, none]) 2 hl rfl (by decide +kernel) (Nat.le_of_ble_eq_true rfl) rfl ?_
  unfold fX12_issue
  refine xg_aload_n dX12_issue_0 (Eq.refl 1) rfl ?_
  refine xg_iload_n dX12_issue_1 (Eq.refl 2) rfl ?_
  refine xg_i2l dX12_issue_2 (Eq.refl 3) h2 ?_
  refine xg_lconst (z := 0) dX12_issue_3 (Eq.refl 4) rfl ?_
  refine xg_ldc2 (z := 2) xq_176 dX12_issue_4 (Eq.refl 7) (by decide +kernel) ?_
  refine xg_callV_Z (kc := 0) (ks := 0) (st := []) (mX12_in hl x0 h0 x2 (R32.j h2) 0 (by decide) 2 (by decide) M hM) bX12_in xcl12 h0 rfl xq_179 rfl (by decide) rfl (by decide) dX12_issue_7 (Eq.refl 10) rfl (by decide) (by decide) ?_
  intro z1 M2 hz1 hM2
  refine xg_if_eq (tgt := 58) dX12_issue_10 (Eq.refl 13) (by decide) (B01.r hz1) ?_ ?_
  · exact xg_jump (gX12_issue_58 hl x0 h0 x1 h1 x2 h2 x3 h3 x4 h4 x5 h5 M2 hM2) (xsb_s (xsb_s (xsb_s (xsb_s (xsb_s (xsb_s (xsb_n (xsb_n xsb_0)))))))) (by decide) (by decide)
  · refine xg_aload_n dX12_issue_13 (Eq.refl 14) rfl ?_
    refine xg_iload_n dX12_issue_14 (Eq.refl 15) rfl ?_
    refine xg_i2l dX12_issue_15 (Eq.refl 16) h3 ?_
    refine xg_lconst (z := 1) dX12_issue_16 (Eq.refl 17) rfl ?_
    refine xg_ldc2 (z := 100000) xq_274 dX12_issue_17 (Eq.refl 20) (by decide +kernel) ?_
    refine xg_callV_Z (kc := 0) (ks := 0) (st := []) (mX12_in hl x0 h0 x3 (R32.j h3) 1 (by decide) 100000 (by decide) M2 hM2) bX12_in xcl12 h0 rfl xq_179 rfl (by decide) rfl (by decide) dX12_issue_20 (Eq.refl 23) rfl (by decide) (by decide) ?_
    intro z3 M4 hz3 hM4
    refine xg_if_eq (tgt := 58) dX12_issue_23 (Eq.refl 26) (by decide) (B01.r hz3) ?_ ?_
    · exact xg_jump (gX12_issue_58 hl x0 h0 x1 h1 x2 h2 x3 h3 x4 h4 x5 h5 M4 hM4) (xsb_s (xsb_s (xsb_s (xsb_s (xsb_s (xsb_s (xsb_n (xsb_n xsb_0)))))))) (by decide) (by decide)
    · refine xg_aload_n dX12_issue_26 (Eq.refl 27) rfl ?_
      refine xg_iload dX12_issue_27 (Eq.refl 29) rfl ?_
      refine xg_i2l dX12_issue_29 (Eq.refl 30) h4 ?_
      refine xg_lconst (z := 1) dX12_issue_30 (Eq.refl 31) rfl ?_
      refine xg_ldc2 (z := 1000) xq_275 dX12_issue_31 (Eq.refl 34) (by decide +kernel) ?_
      refine xg_callV_Z (kc := 0) (ks := 0) (st := []) (mX12_in hl x0 h0 x4 (R32.j h4) 1 (by decide) 1000 (by decide) M4 hM4) bX12_in xcl12 h0 rfl xq_179 rfl (by decide) rfl (by decide) dX12_issue_34 (Eq.refl 37) rfl (by decide) (by decide) ?_
      intro z5 M6 hz5 hM6
      refine xg_if_eq (tgt := 58) dX12_issue_37 (Eq.refl 40) (by decide) (B01.r hz5) ?_ ?_
      · exact xg_jump (gX12_issue_58 hl x0 h0 x1 h1 x2 h2 x3 h3 x4 h4 x5 h5 M6 hM6) (xsb_s (xsb_s (xsb_s (xsb_s (xsb_s (xsb_s (xsb_n (xsb_n xsb_0)))))))) (by decide) (by decide)
      · refine xg_aload_n dX12_issue_40 (Eq.refl 41) rfl ?_
        refine xg_iload dX12_issue_41 (Eq.refl 43) rfl ?_
        refine xg_i2l dX12_issue_43 (Eq.refl 44) h5 ?_
        refine xg_lconst (z := 0) dX12_issue_44 (Eq.refl 45) rfl ?_
        refine xg_ldc2 (z := 500) xq_276 dX12_issue_45 (Eq.refl 48) (by decide +kernel) ?_
        refine xg_callV_Z (kc := 0) (ks := 0) (st := []) (mX12_in hl x0 h0 x5 (R32.j h5) 0 (by decide) 500 (by decide) M6 hM6) bX12_in xcl12 h0 rfl xq_179 rfl (by decide) rfl (by decide) dX12_issue_48 (Eq.refl 51) rfl (by decide) (by decide) ?_
        intro z7 M8 hz7 hM8
        refine xg_if_eq (tgt := 58) dX12_issue_51 (Eq.refl 54) (by decide) (B01.r hz7) ?_ ?_
        · exact xg_jump (gX12_issue_58 hl x0 h0 x1 h1 x2 h2 x3 h3 x4 h4 x5 h5 M8 hM8) (xsb_s (xsb_s (xsb_s (xsb_s (xsb_s (xsb_s (xsb_n (xsb_n xsb_0)))))))) (by decide) (by decide)
        · refine xg_iconst dX12_issue_54 (Eq.refl 55) ?_
          refine xg_goto (tgt := 59) dX12_issue_55 (by decide) ?_
          exact xg_jump (gX12_issue_59 hl x0 h0 x1 h1 x2 h2 x3 h3 x4 h4 x5 h5 1 (by decide) M8 hM8) (xsb_s (xsb_s (xsb_s (xsb_s (xsb_s (xsb_s (xsb_n (xsb_n xsb_0)))))))) (by decide) (by decide)
abbrev uX12_setPrice : xU := (RX12, cX12_setPrice, 4, (some .int), [], "setPrice")
theorem bX12_setPrice : xYV yX12_setPrice cX12_setPrice 4 (some .int) 2 := ⟨xq_290, xq_291, xq_5, xq_292, ⟨by decide +kernel, by decide +kernel, by decide +kernel⟩, by decide⟩
theorem gX12_setPrice_31 {l : Launch} {G : xG} (hl : l.stackTraces = false) (x0 : Nat) (h0 : xOb 12 x0) (x1 : Int) (h1 : R32 x1) (x2 : Int) (h2 : R32 x2) (s0 : Int) (hs0 : R32 s0) (s1 : Nat) (hs1 : xOb 12 s1) (M : xM) (hM : xcan M) : Gv l G uX12_setPrice 3 0 0 0 31 [some (.ref x0), some (iv x1), some (iv x2), none] [iv s0, .ref s1] M (fX12_setPrice_31 x0 x1 x2 s0 s1 M) := by
  unfold fX12_setPrice_31
  refine xg_callV_Z (kc := 0) (ks := 0) (st := []) (mX12_holds hl s1 hs1 s0 hs0 M hM) bX12_holds xcl12 hs1 rfl xq_187 rfl (by decide) rfl (by decide) dX12_setPrice_31 (Eq.refl 34) rfl (by decide) (by decide) ?_
  intro z1 M2 hz1 hM2
  refine xg_if_eq (tgt := 39) dX12_setPrice_34 (Eq.refl 37) (by decide) (B01.r hz1) ?_ ?_
  · refine xg_aload_n dX12_setPrice_39 (Eq.refl 40) rfl ?_
    refine xg_getR (k := 0) xcl12 h0 rfl xq_122 rfl (xt_12_0 h0).1 dX12_setPrice_40 (Eq.refl 43) ?_
    refine xg_sipush dX12_setPrice_43 (Eq.refl 46) (by decide +kernel) ?_
    refine xg_iload_n dX12_setPrice_46 (Eq.refl 47) rfl ?_
    refine xg_iadd dX12_setPrice_47 (Eq.refl 48) ?_
    refine xg_lald (xt_12_0 h0).2 dX12_setPrice_48 (Eq.refl 49) ?_
    refine xg_l2i dX12_setPrice_49 (Eq.refl 50) ?_
    refine xg_istore_nL (P := R32) (ls2 := fun y3 => [some (.ref x0), some (iv x1), some (iv x2), some (iv y3)]) dX12_setPrice_50 (Eq.refl 51) (by decide) (w32_r _) (fun _ => rfl) ?_
    intro y3 hy3
    refine xg_aload_n dX12_setPrice_51 (Eq.refl 52) rfl ?_
    refine xg_getR (k := 0) xcl12 h0 rfl xq_122 rfl (xt_12_0 h0).1 dX12_setPrice_52 (Eq.refl 55) ?_
    refine xg_sipush dX12_setPrice_55 (Eq.refl 58) (by decide +kernel) ?_
    refine xg_iload_n dX12_setPrice_58 (Eq.refl 59) rfl ?_
    refine xg_iadd dX12_setPrice_59 (Eq.refl 60) ?_
    refine xg_iload_n dX12_setPrice_60 (Eq.refl 61) rfl ?_
    refine xg_i2l dX12_setPrice_61 (Eq.refl 62) h2 ?_
    refine xg_last (xt_12_0 h0).2 dX12_setPrice_62 (Eq.refl 63) hM2 (R32.j h2) ?_
    intro M4 hM4
    refine xg_iload_n dX12_setPrice_63 (Eq.refl 64) rfl ?_
    exact xg_iret rfl dX12_setPrice_64 rfl hM4 hy3
  · refine xg_iconst dX12_setPrice_37 (Eq.refl 38) ?_
    exact xg_iret rfl dX12_setPrice_38 rfl hM2 (by decide)
theorem mX12_setPrice {l : Launch} {G : xG} (hl : l.stackTraces = false) (x0 : Nat) (h0 : xOb 12 x0) (x1 : Int) (h1 : R32 x1) (x2 : Int) (h2 : R32 x2) (M : xM) (hM : xcan M) : Cm l G yX12_setPrice cX12_setPrice 4 (some .int) 3 0 0 0 [.ref x0, iv x1, iv x2] M (fX12_setPrice x0 x1 x2 M) := by
  refine xcm_of (u := uX12_setPrice) (ls := [some (.ref x0), some (iv x1), some (iv x2), none]) 1 hl rfl (by decide +kernel) (Nat.le_of_ble_eq_true rfl) rfl ?_
  unfold fX12_setPrice
  refine xg_aload_n dX12_setPrice_0 (Eq.refl 1) rfl ?_
  refine xg_aload_n dX12_setPrice_1 (Eq.refl 2) rfl ?_
  refine xg_iload_n dX12_setPrice_2 (Eq.refl 3) rfl ?_
  refine xg_callV_Z (kc := 0) (ks := 0) (st := [.ref x0]) (mX12_isSecurity hl x0 h0 x1 h1 M hM) bX12_isSecurity xcl12 h0 rfl xq_293 rfl (by decide) rfl (Nat.le_of_ble_eq_true rfl) dX12_setPrice_3 (Eq.refl 6) rfl (by decide) (by decide) ?_
  intro z1 M2 hz1 hM2
  refine xg_if_ne (tgt := 13) dX12_setPrice_6 (Eq.refl 9) (by decide) (B01.r hz1) ?_ ?_
  · refine xg_iconst dX12_setPrice_9 (Eq.refl 10) ?_
    refine xg_goto (tgt := 31) dX12_setPrice_10 (by decide) ?_
    exact xg_jump (gX12_setPrice_31 hl x0 h0 x1 h1 x2 h2 1 (by decide) x0 h0 M2 hM2) (xsb_s (xsb_s (xsb_s (xsb_n xsb_0)))) (by decide) (by decide)
  · refine xg_aload_n dX12_setPrice_13 (Eq.refl 14) rfl ?_
    refine xg_iload_n dX12_setPrice_14 (Eq.refl 15) rfl ?_
    refine xg_i2l dX12_setPrice_15 (Eq.refl 16) h2 ?_
    refine xg_lconst (z := 1) dX12_setPrice_16 (Eq.refl 17) rfl ?_
    refine xg_ldc2 (z := 1000) xq_275 dX12_setPrice_17 (Eq.refl 20) (by decide +kernel) ?_
    refine xg_callV_Z (kc := 0) (ks := 0) (st := [.ref x0]) (mX12_in hl x0 h0 x2 (R32.j h2) 1 (by decide) 1000 (by decide) M2 hM2) bX12_in xcl12 h0 rfl xq_179 rfl (by decide) rfl (Nat.le_of_ble_eq_true rfl) dX12_setPrice_20 (Eq.refl 23) rfl (by decide) (by decide) ?_
    intro z3 M4 hz3 hM4
    refine xg_if_eq (tgt := 30) dX12_setPrice_23 (Eq.refl 26) (by decide) (B01.r hz3) ?_ ?_
    · refine xg_iconst dX12_setPrice_30 (Eq.refl 31) ?_
      exact xg_jump (gX12_setPrice_31 hl x0 h0 x1 h1 x2 h2 2 (by decide) x0 h0 M4 hM4) (xsb_s (xsb_s (xsb_s (xsb_n xsb_0)))) (by decide) (by decide)
    · refine xg_iconst dX12_setPrice_26 (Eq.refl 27) ?_
      refine xg_goto (tgt := 31) dX12_setPrice_27 (by decide) ?_
      exact xg_jump (gX12_setPrice_31 hl x0 h0 x1 h1 x2 h2 0 (by decide) x0 h0 M4 hM4) (xsb_s (xsb_s (xsb_s (xsb_n xsb_0)))) (by decide) (by decide)
abbrev uX12_block : xU := (RX12, cX12_block, 7, (some .long), [], "block")
theorem bX12_block : xYV yX12_block cX12_block 7 (some .long) 3 := ⟨xq_317, xq_318, xq_5, xq_319, ⟨by decide +kernel, by decide +kernel, by decide +kernel⟩, by decide⟩
theorem gX12_block_65 {l : Launch} {G : xG} (hl : l.stackTraces = false) (x0 : Nat) (h0 : xOb 12 x0) (x1 : Int) (h1 : R32 x1) (x2 : Int) (h2 : R32 x2) (x3 : Int) (h3 : R32 x3) (s0 : Int) (hs0 : R32 s0) (s1 : Nat) (hs1 : xOb 12 s1) (M : xM) (hM : xcan M) : Gv l G uX12_block 3 2 0 0 65 [some (.ref x0), some (iv x1), some (iv x2), some (iv x3), none, none, none] [iv s0, .ref s1] M (fX12_block_65 x0 x1 x2 x3 s0 s1 M) := by
  unfold fX12_block_65
  refine xg_callV_Z (kc := 0) (ks := 0) (st := []) (mX12_holds hl s1 hs1 s0 hs0 M hM) bX12_holds xcl12 hs1 rfl xq_187 rfl (by decide) rfl (by decide) dX12_block_65 (Eq.refl 68) rfl (by decide) (by decide) ?_
  intro z1 M2 hz1 hM2
  refine xg_if_eq (tgt := 75) dX12_block_68 (Eq.refl 71) (by decide) (B01.r hz1) ?_ ?_
  · refine xg_aload_n dX12_block_75 (Eq.refl 76) rfl ?_
    refine xg_getR (k := 0) xcl12 h0 rfl xq_122 rfl (xt_12_0 h0).1 dX12_block_76 (Eq.refl 79) ?_
    refine xg_sipush dX12_block_79 (Eq.refl 82) (by decide +kernel) ?_
    refine xg_iconst dX12_block_82 (Eq.refl 83) ?_
    refine xg_iload_n dX12_block_83 (Eq.refl 84) rfl ?_
    refine xg_imul dX12_block_84 (Eq.refl 85) ?_
    refine xg_iadd dX12_block_85 (Eq.refl 86) ?_
    refine xg_iload_n dX12_block_86 (Eq.refl 87) rfl ?_
    refine xg_iadd dX12_block_87 (Eq.refl 88) ?_
    refine xg_lald (xt_12_0 h0).2 dX12_block_88 (Eq.refl 89) ?_
    refine xg_lstoreL (P := R64) (ls2 := fun y3 => [some (.ref x0), some (iv x1), some (iv x2), some (iv x3), none, some (jv y3), none]) dX12_block_89 (Eq.refl 91) (by decide) (hM2.aj (xt_12_0 h0).2) (fun _ => rfl) ?_
    intro y3 hy3
    refine xg_aload_n dX12_block_91 (Eq.refl 92) rfl ?_
    refine xg_getR (k := 0) xcl12 h0 rfl xq_122 rfl (xt_12_0 h0).1 dX12_block_92 (Eq.refl 95) ?_
    refine xg_sipush dX12_block_95 (Eq.refl 98) (by decide +kernel) ?_
    refine xg_iconst dX12_block_98 (Eq.refl 99) ?_
    refine xg_iload_n dX12_block_99 (Eq.refl 100) rfl ?_
    refine xg_imul dX12_block_100 (Eq.refl 101) ?_
    refine xg_iadd dX12_block_101 (Eq.refl 102) ?_
    refine xg_iload_n dX12_block_102 (Eq.refl 103) rfl ?_
    refine xg_iadd dX12_block_103 (Eq.refl 104) ?_
    refine xg_iload_n dX12_block_104 (Eq.refl 105) rfl ?_
    refine xg_i2l dX12_block_105 (Eq.refl 106) h3 ?_
    refine xg_last (xt_12_0 h0).2 dX12_block_106 (Eq.refl 107) hM2 (R32.j h3) ?_
    intro M4 hM4
    refine xg_lload dX12_block_107 (Eq.refl 109) rfl ?_
    exact xg_lret rfl dX12_block_109 rfl hM4 hy3
  · refine xg_ldc2 (z := (-1)) xq_320 dX12_block_71 (Eq.refl 74) (by decide +kernel) ?_
    exact xg_lret rfl dX12_block_74 rfl hM2 (by decide)
theorem gX12_block_21 {l : Launch} {G : xG} (hl : l.stackTraces = false) (x0 : Nat) (h0 : xOb 12 x0) (x1 : Int) (h1 : R32 x1) (x2 : Int) (h2 : R32 x2) (x3 : Int) (h3 : R32 x3) (s0 : Int) (hs0 : B01 s0) (M : xM) (hM : xcan M) : Gv l G uX12_block 3 2 0 0 21 [some (.ref x0), some (iv x1), some (iv x2), some (iv x3), none, none, none] [iv s0] M (fX12_block_21 x0 x1 x2 x3 s0 M) := by
  unfold fX12_block_21
  refine xg_istore (ls2 := [some (.ref x0), some (iv x1), some (iv x2), some (iv x3), some (iv s0), none, none]) dX12_block_21 (Eq.refl 23) (by decide) rfl ?_
  refine xg_aload_n dX12_block_23 (Eq.refl 24) rfl ?_
  refine xg_iload dX12_block_24 (Eq.refl 26) rfl ?_
  refine xg_if_ne (tgt := 33) dX12_block_26 (Eq.refl 29) (by decide) (B01.r hs0) ?_ ?_
  · refine xg_iconst dX12_block_29 (Eq.refl 30) ?_
    refine xg_goto (tgt := 65) dX12_block_30 (by decide) ?_
    exact xg_jump (gX12_block_65 hl x0 h0 x1 h1 x2 h2 x3 h3 1 (by decide) x0 h0 M hM) (xsb_s (xsb_s (xsb_s (xsb_s (xsb_n (xsb_n (xsb_n xsb_0))))))) (by decide) (by decide)
  · refine xg_iload_n dX12_block_33 (Eq.refl 34) rfl ?_
    refine xg_if_ge (tgt := 41) dX12_block_34 (Eq.refl 37) (by decide) h3 ?_ ?_
    · refine xg_iload_n dX12_block_41 (Eq.refl 42) rfl ?_
      refine xg_i2l dX12_block_42 (Eq.refl 43) h3 ?_
      refine xg_aload_n dX12_block_43 (Eq.refl 44) rfl ?_
      refine xg_getR (k := 0) xcl12 h0 rfl xq_122 rfl (xt_12_0 h0).1 dX12_block_44 (Eq.refl 47) ?_
      refine xg_bipush dX12_block_47 (Eq.refl 49) (by decide +kernel) ?_
      refine xg_iconst dX12_block_49 (Eq.refl 50) ?_
      refine xg_iload_n dX12_block_50 (Eq.refl 51) rfl ?_
      refine xg_imul dX12_block_51 (Eq.refl 52) ?_
      refine xg_iadd dX12_block_52 (Eq.refl 53) ?_
      refine xg_iload_n dX12_block_53 (Eq.refl 54) rfl ?_
      refine xg_iadd dX12_block_54 (Eq.refl 55) ?_
      refine xg_lald (xt_12_0 h0).2 dX12_block_55 (Eq.refl 56) ?_
      refine xg_lif_le (tgt := 64) dX12_block_56 (Eq.refl 57) dX12_block_57 (Eq.refl 60) (by decide) (R32.j h3) (hM.aj (xt_12_0 h0).2) ?_ ?_
      · refine xg_iconst dX12_block_64 (Eq.refl 65) ?_
        exact xg_jump (gX12_block_65 hl x0 h0 x1 h1 x2 h2 x3 h3 0 (by decide) x0 h0 M hM) (xsb_s (xsb_s (xsb_s (xsb_s (xsb_n (xsb_n (xsb_n xsb_0))))))) (by decide) (by decide)
      · refine xg_iconst dX12_block_60 (Eq.refl 61) ?_
        refine xg_goto (tgt := 65) dX12_block_61 (by decide) ?_
        exact xg_jump (gX12_block_65 hl x0 h0 x1 h1 x2 h2 x3 h3 3 (by decide) x0 h0 M hM) (xsb_s (xsb_s (xsb_s (xsb_s (xsb_n (xsb_n (xsb_n xsb_0))))))) (by decide) (by decide)
    · refine xg_iconst dX12_block_37 (Eq.refl 38) ?_
      refine xg_goto (tgt := 65) dX12_block_38 (by decide) ?_
      exact xg_jump (gX12_block_65 hl x0 h0 x1 h1 x2 h2 x3 h3 2 (by decide) x0 h0 M hM) (xsb_s (xsb_s (xsb_s (xsb_s (xsb_n (xsb_n (xsb_n xsb_0))))))) (by decide) (by decide)
theorem gX12_block_20 {l : Launch} {G : xG} (hl : l.stackTraces = false) (x0 : Nat) (h0 : xOb 12 x0) (x1 : Int) (h1 : R32 x1) (x2 : Int) (h2 : R32 x2) (x3 : Int) (h3 : R32 x3) (M : xM) (hM : xcan M) : Gv l G uX12_block 3 2 0 0 20 [some (.ref x0), some (iv x1), some (iv x2), some (iv x3), none, none, none] [] M (fX12_block_20 x0 x1 x2 x3 M) := by
  unfold fX12_block_20
  refine xg_iconst dX12_block_20 (Eq.refl 21) ?_
  exact xg_jump (gX12_block_21 hl x0 h0 x1 h1 x2 h2 x3 h3 0 (by decide) M hM) (xsb_s (xsb_s (xsb_s (xsb_s (xsb_n (xsb_n (xsb_n xsb_0))))))) (by decide) (by decide)
theorem mX12_block {l : Launch} {G : xG} (hl : l.stackTraces = false) (x0 : Nat) (h0 : xOb 12 x0) (x1 : Int) (h1 : R32 x1) (x2 : Int) (h2 : R32 x2) (x3 : Int) (h3 : R32 x3) (M : xM) (hM : xcan M) : Cm l G yX12_block cX12_block 7 (some .long) 3 2 0 0 [.ref x0, iv x1, iv x2, iv x3] M (fX12_block x0 x1 x2 x3 M) := by
  refine xcm_of (u := uX12_block) (ls := [some (.ref x0), some (iv x1), some (iv x2), some (iv x3), none, none, none]) 3 hl rfl (by decide +kernel) (Nat.le_of_ble_eq_true rfl) rfl ?_
  unfold fX12_block
  refine xg_aload_n dX12_block_0 (Eq.refl 1) rfl ?_
  refine xg_iload_n dX12_block_1 (Eq.refl 2) rfl ?_
  refine xg_callV_Z (kc := 0) (ks := 0) (st := []) (mX12_isAccount hl x0 h0 x1 h1 M hM) bX12_isAccount xcl12 h0 rfl xq_183 rfl (by decide) rfl (by decide) dX12_block_2 (Eq.refl 5) rfl (by decide) (by decide) ?_
  intro z1 M2 hz1 hM2
  refine xg_if_eq (tgt := 20) dX12_block_5 (Eq.refl 8) (by decide) (B01.r hz1) ?_ ?_
  · exact xg_jump (gX12_block_20 hl x0 h0 x1 h1 x2 h2 x3 h3 M2 hM2) (xsb_s (xsb_s (xsb_s (xsb_s (xsb_n (xsb_n (xsb_n xsb_0))))))) (by decide) (by decide)
  · refine xg_aload_n dX12_block_8 (Eq.refl 9) rfl ?_
    refine xg_iload_n dX12_block_9 (Eq.refl 10) rfl ?_
    refine xg_callV_Z (kc := 0) (ks := 0) (st := []) (mX12_isSecurity hl x0 h0 x2 h2 M2 hM2) bX12_isSecurity xcl12 h0 rfl xq_293 rfl (by decide) rfl (by decide) dX12_block_10 (Eq.refl 13) rfl (by decide) (by decide) ?_
    intro z3 M4 hz3 hM4
    refine xg_if_eq (tgt := 20) dX12_block_13 (Eq.refl 16) (by decide) (B01.r hz3) ?_ ?_
    · exact xg_jump (gX12_block_20 hl x0 h0 x1 h1 x2 h2 x3 h3 M4 hM4) (xsb_s (xsb_s (xsb_s (xsb_s (xsb_n (xsb_n (xsb_n xsb_0))))))) (by decide) (by decide)
    · refine xg_iconst dX12_block_16 (Eq.refl 17) ?_
      refine xg_goto (tgt := 21) dX12_block_17 (by decide) ?_
      exact xg_jump (gX12_block_21 hl x0 h0 x1 h1 x2 h2 x3 h3 1 (by decide) M4 hM4) (xsb_s (xsb_s (xsb_s (xsb_s (xsb_n (xsb_n (xsb_n xsb_0))))))) (by decide) (by decide)
abbrev uX12_bring : xU := (RX12, cX12_bring, 6, (some .long), [], "bring")
theorem bX12_bring : xYV yX12_bring cX12_bring 6 (some .long) 2 := ⟨xq_354, xq_355, xq_5, xq_356, ⟨by decide +kernel, by decide +kernel, by decide +kernel⟩, by decide⟩
theorem gX12_bring_142 {l : Launch} {G : xG} (hl : l.stackTraces = false) (x0 : Nat) (h0 : xOb 12 x0) (x1 : Int) (h1 : R32 x1) (s0 : Int) (hs0 : R32 s0) (s1 : Nat) (hs1 : xOb 12 s1) (M : xM) (hM : xcan M) : Gv l G uX12_bring 4 2 0 0 142 [some (.ref x0), some (iv x1), none, none, none, none] [iv s0, .ref s1] M (fX12_bring_142 x0 x1 s0 s1 M) := by
  unfold fX12_bring_142
  refine xg_callV_Z (kc := 0) (ks := 0) (st := []) (mX12_holds hl s1 hs1 s0 hs0 M hM) bX12_holds xcl12 hs1 rfl xq_187 rfl (by decide) rfl (by decide) dX12_bring_142 (Eq.refl 145) rfl (by decide) (by decide) ?_
  intro z1 M2 hz1 hM2
  refine xg_if_eq (tgt := 152) dX12_bring_145 (Eq.refl 148) (by decide) (B01.r hz1) ?_ ?_
  · refine xg_aload_n dX12_bring_152 (Eq.refl 153) rfl ?_
    refine xg_getR (k := 0) xcl12 h0 rfl xq_122 rfl (xt_12_0 h0).1 dX12_bring_153 (Eq.refl 156) ?_
    refine xg_bipush dX12_bring_156 (Eq.refl 158) (by decide +kernel) ?_
    refine xg_iload_n dX12_bring_158 (Eq.refl 159) rfl ?_
    refine xg_iadd dX12_bring_159 (Eq.refl 160) ?_
    refine xg_lald (xt_12_0 h0).2 dX12_bring_160 (Eq.refl 161) ?_
    exact xg_lret rfl dX12_bring_161 rfl hM2 (hM2.aj (xt_12_0 h0).2)
  · refine xg_ldc2 (z := (-1)) xq_320 dX12_bring_148 (Eq.refl 151) (by decide +kernel) ?_
    exact xg_lret rfl dX12_bring_151 rfl hM2 (by decide)
theorem gX12_bring_112 {l : Launch} {G : xG} (hl : l.stackTraces = false) (x0 : Nat) (h0 : xOb 12 x0) (x1 : Int) (h1 : R32 x1) (x3 : Int) (h3 : B01 x3) (x4 : Int) (h4 : B01 x4) (x5 : Int) (h5 : B01 x5) (s0 : Int) (hs0 : R64 s0) (s1 : Int) (hs1 : R64 s1) (s2 : Int) (hs2 : R32 s2) (s3 : Nat) (hs3 : xAn 1 1550 s3) (M : xM) (hM : xcan M) : Gv l G uX12_bring 4 2 0 0 112 [some (.ref x0), some (iv x1), none, some (iv x3), some (iv x4), some (iv x5)] [jv s0, jv s1, iv s2, .ref s3] M (fX12_bring_112 x0 x1 x3 x4 x5 s0 s1 s2 s3 M) := by
  unfold fX12_bring_112
  refine xg_lsub dX12_bring_112 (Eq.refl 113) ?_
  refine xg_last hs3 dX12_bring_113 (Eq.refl 114) hM (w64_r _) ?_
  intro M1 hM1
  refine xg_aload_n dX12_bring_114 (Eq.refl 115) rfl ?_
  refine xg_iload_n dX12_bring_115 (Eq.refl 116) rfl ?_
  refine xg_if_ne (tgt := 123) dX12_bring_116 (Eq.refl 119) (by decide) (B01.r h3) ?_ ?_
  · refine xg_iconst dX12_bring_119 (Eq.refl 120) ?_
    refine xg_goto (tgt := 142) dX12_bring_120 (by decide) ?_
    exact xg_jump (gX12_bring_142 hl x0 h0 x1 h1 1 (by decide) x0 h0 M1 hM1) (xsb_s (xsb_s (xsb_n (xsb_n (xsb_n (xsb_n xsb_0)))))) (by decide) (by decide)
  · refine xg_iload dX12_bring_123 (Eq.refl 125) rfl ?_
    refine xg_if_ne (tgt := 132) dX12_bring_125 (Eq.refl 128) (by decide) (B01.r h4) ?_ ?_
    · refine xg_iconst dX12_bring_128 (Eq.refl 129) ?_
      refine xg_goto (tgt := 142) dX12_bring_129 (by decide) ?_
      exact xg_jump (gX12_bring_142 hl x0 h0 x1 h1 2 (by decide) x0 h0 M1 hM1) (xsb_s (xsb_s (xsb_n (xsb_n (xsb_n (xsb_n xsb_0)))))) (by decide) (by decide)
    · refine xg_iload dX12_bring_132 (Eq.refl 134) rfl ?_
      refine xg_if_eq (tgt := 141) dX12_bring_134 (Eq.refl 137) (by decide) (B01.r h5) ?_ ?_
      · refine xg_iconst dX12_bring_141 (Eq.refl 142) ?_
        exact xg_jump (gX12_bring_142 hl x0 h0 x1 h1 0 (by decide) x0 h0 M1 hM1) (xsb_s (xsb_s (xsb_n (xsb_n (xsb_n (xsb_n xsb_0)))))) (by decide) (by decide)
      · refine xg_iconst dX12_bring_137 (Eq.refl 138) ?_
        refine xg_goto (tgt := 142) dX12_bring_138 (by decide) ?_
        exact xg_jump (gX12_bring_142 hl x0 h0 x1 h1 3 (by decide) x0 h0 M1 hM1) (xsb_s (xsb_s (xsb_n (xsb_n (xsb_n (xsb_n xsb_0)))))) (by decide) (by decide)
theorem gX12_bring_98 {l : Launch} {G : xG} (hl : l.stackTraces = false) (x0 : Nat) (h0 : xOb 12 x0) (x1 : Int) (h1 : R32 x1) (x2 : Int) (h2 : R32 x2) (x3 : Int) (h3 : B01 x3) (x4 : Int) (h4 : B01 x4) (x5 : Int) (h5 : B01 x5) (s0 : Int) (hs0 : R32 s0) (s1 : Int) (hs1 : R32 s1) (s2 : Nat) (hs2 : xAn 1 1550 s2) (M : xM) (hM : xcan M) : Gv l G uX12_bring 4 2 0 0 98 [some (.ref x0), some (iv x1), some (iv x2), some (iv x3), some (iv x4), some (iv x5)] [iv s0, iv s1, .ref s2] M (fX12_bring_98 x0 x1 x2 x3 x4 x5 s0 s1 s2 M) := by
  unfold fX12_bring_98
  refine xg_iadd dX12_bring_98 (Eq.refl 99) ?_
  refine xg_dup2 dX12_bring_99 (Eq.refl 100) rfl rfl ?_
  refine xg_lald hs2 dX12_bring_100 (Eq.refl 101) ?_
  refine xg_iload dX12_bring_101 (Eq.refl 103) rfl ?_
  refine xg_if_eq (tgt := 111) dX12_bring_103 (Eq.refl 106) (by decide) (B01.r h5) ?_ ?_
  · refine xg_lconst (z := 0) dX12_bring_111 (Eq.refl 112) rfl ?_
    exact xg_jump (gX12_bring_112 hl x0 h0 x1 h1 x3 h3 x4 h4 x5 h5 0 (by decide) (M s2 (w32 (s1 + s0)).toNat) (hM.aj hs2) (w32 (s1 + s0)) (w32_r _) s2 hs2 M hM) (xsb_s (xsb_s (xsb_n (xsb_s (xsb_s (xsb_s xsb_0)))))) (by decide) (by decide)
  · refine xg_iload_n dX12_bring_106 (Eq.refl 107) rfl ?_
    refine xg_i2l dX12_bring_107 (Eq.refl 108) h2 ?_
    refine xg_goto (tgt := 112) dX12_bring_108 (by decide) ?_
    exact xg_jump (gX12_bring_112 hl x0 h0 x1 h1 x3 h3 x4 h4 x5 h5 x2 (R32.j h2) (M s2 (w32 (s1 + s0)).toNat) (hM.aj hs2) (w32 (s1 + s0)) (w32_r _) s2 hs2 M hM) (xsb_s (xsb_s (xsb_n (xsb_s (xsb_s (xsb_s xsb_0)))))) (by decide) (by decide)
theorem gX12_bring_81 {l : Launch} {G : xG} (hl : l.stackTraces = false) (x0 : Nat) (h0 : xOb 12 x0) (x1 : Int) (h1 : R32 x1) (x2 : Int) (h2 : R32 x2) (x3 : Int) (h3 : B01 x3) (x4 : Int) (h4 : B01 x4) (s0 : Int) (hs0 : B01 s0) (M : xM) (hM : xcan M) : Gv l G uX12_bring 4 2 0 0 81 [some (.ref x0), some (iv x1), some (iv x2), some (iv x3), some (iv x4), none] [iv s0] M (fX12_bring_81 x0 x1 x2 x3 x4 s0 M) := by
  unfold fX12_bring_81
  refine xg_istore (ls2 := [some (.ref x0), some (iv x1), some (iv x2), some (iv x3), some (iv x4), some (iv s0)]) dX12_bring_81 (Eq.refl 83) (by decide) rfl ?_
  refine xg_aload_n dX12_bring_83 (Eq.refl 84) rfl ?_
  refine xg_getR (k := 0) xcl12 h0 rfl xq_122 rfl (xt_12_0 h0).1 dX12_bring_84 (Eq.refl 87) ?_
  refine xg_bipush dX12_bring_87 (Eq.refl 89) (by decide +kernel) ?_
  refine xg_iload_n dX12_bring_89 (Eq.refl 90) rfl ?_
  refine xg_if_eq (tgt := 97) dX12_bring_90 (Eq.refl 93) (by decide) (B01.r h3) ?_ ?_
  · refine xg_iconst dX12_bring_97 (Eq.refl 98) ?_
    exact xg_jump (gX12_bring_98 hl x0 h0 x1 h1 x2 h2 x3 h3 x4 h4 s0 hs0 0 (by decide) 30 (by decide) (xr x0 0) (xt_12_0 h0).2 M hM) (xsb_s (xsb_s (xsb_s (xsb_s (xsb_s (xsb_s xsb_0)))))) (by decide) (by decide)
  · refine xg_iload_n dX12_bring_93 (Eq.refl 94) rfl ?_
    refine xg_goto (tgt := 98) dX12_bring_94 (by decide) ?_
    exact xg_jump (gX12_bring_98 hl x0 h0 x1 h1 x2 h2 x3 h3 x4 h4 s0 hs0 x1 h1 30 (by decide) (xr x0 0) (xt_12_0 h0).2 M hM) (xsb_s (xsb_s (xsb_s (xsb_s (xsb_s (xsb_s xsb_0)))))) (by decide) (by decide)
theorem gX12_bring_80 {l : Launch} {G : xG} (hl : l.stackTraces = false) (x0 : Nat) (h0 : xOb 12 x0) (x1 : Int) (h1 : R32 x1) (x2 : Int) (h2 : R32 x2) (x3 : Int) (h3 : B01 x3) (x4 : Int) (h4 : B01 x4) (M : xM) (hM : xcan M) : Gv l G uX12_bring 4 2 0 0 80 [some (.ref x0), some (iv x1), some (iv x2), some (iv x3), some (iv x4), none] [] M (fX12_bring_80 x0 x1 x2 x3 x4 M) := by
  unfold fX12_bring_80
  refine xg_iconst dX12_bring_80 (Eq.refl 81) ?_
  exact xg_jump (gX12_bring_81 hl x0 h0 x1 h1 x2 h2 x3 h3 x4 h4 0 (by decide) M hM) (xsb_s (xsb_s (xsb_s (xsb_s (xsb_s (xsb_n xsb_0)))))) (by decide) (by decide)
theorem gX12_bring_53 {l : Launch} {G : xG} (hl : l.stackTraces = false) (x0 : Nat) (h0 : xOb 12 x0) (x1 : Int) (h1 : R32 x1) (x2 : Int) (h2 : R32 x2) (x3 : Int) (h3 : B01 x3) (x4 : Int) (h4 : B01 x4) (s0 : Int) (hs0 : R64 s0) (s1 : Int) (hs1 : R64 s1) (s2 : Int) (hs2 : R32 s2) (s3 : Nat) (hs3 : xAn 1 1550 s3) (M : xM) (hM : xcan M) : Gv l G uX12_bring 4 2 0 0 53 [some (.ref x0), some (iv x1), some (iv x2), some (iv x3), some (iv x4), none] [jv s0, jv s1, iv s2, .ref s3] M (fX12_bring_53 x0 x1 x2 x3 x4 s0 s1 s2 s3 M) := by
  unfold fX12_bring_53
  refine xg_ladd dX12_bring_53 (Eq.refl 54) ?_
  refine xg_last hs3 dX12_bring_54 (Eq.refl 55) hM (w64_r _) ?_
  intro M1 hM1
  refine xg_iload_n dX12_bring_55 (Eq.refl 56) rfl ?_
  refine xg_if_eq (tgt := 80) dX12_bring_56 (Eq.refl 59) (by decide) (B01.r h3) ?_ ?_
  · exact xg_jump (gX12_bring_80 hl x0 h0 x1 h1 x2 h2 x3 h3 x4 h4 M1 hM1) (xsb_s (xsb_s (xsb_s (xsb_s (xsb_s (xsb_n xsb_0)))))) (by decide) (by decide)
  · refine xg_iload dX12_bring_59 (Eq.refl 61) rfl ?_
    refine xg_if_eq (tgt := 80) dX12_bring_61 (Eq.refl 64) (by decide) (B01.r h4) ?_ ?_
    · exact xg_jump (gX12_bring_80 hl x0 h0 x1 h1 x2 h2 x3 h3 x4 h4 M1 hM1) (xsb_s (xsb_s (xsb_s (xsb_s (xsb_s (xsb_n xsb_0)))))) (by decide) (by decide)
    · refine xg_iload_n dX12_bring_64 (Eq.refl 65) rfl ?_
      refine xg_if_ge (tgt := 80) dX12_bring_65 (Eq.refl 68) (by decide) h2 ?_ ?_
      · exact xg_jump (gX12_bring_80 hl x0 h0 x1 h1 x2 h2 x3 h3 x4 h4 M1 hM1) (xsb_s (xsb_s (xsb_s (xsb_s (xsb_s (xsb_n xsb_0)))))) (by decide) (by decide)
      · refine xg_aload_n dX12_bring_68 (Eq.refl 69) rfl ?_
        refine xg_iload_n dX12_bring_69 (Eq.refl 70) rfl ?_
        refine xg_callV_Z (kc := 0) (ks := 0) (st := []) (mX12_sound hl x0 h0 x1 h1 M1 hM1) bX12_sound xcl12 h0 rfl xq_358 rfl (by decide) rfl (by decide) dX12_bring_70 (Eq.refl 73) rfl (by decide) (by decide) ?_
        intro z2 M3 hz2 hM3
        refine xg_if_ne (tgt := 80) dX12_bring_73 (Eq.refl 76) (by decide) (B01.r hz2) ?_ ?_
        · refine xg_iconst dX12_bring_76 (Eq.refl 77) ?_
          refine xg_goto (tgt := 81) dX12_bring_77 (by decide) ?_
          exact xg_jump (gX12_bring_81 hl x0 h0 x1 h1 x2 h2 x3 h3 x4 h4 1 (by decide) M3 hM3) (xsb_s (xsb_s (xsb_s (xsb_s (xsb_s (xsb_n xsb_0)))))) (by decide) (by decide)
        · exact xg_jump (gX12_bring_80 hl x0 h0 x1 h1 x2 h2 x3 h3 x4 h4 M3 hM3) (xsb_s (xsb_s (xsb_s (xsb_s (xsb_s (xsb_n xsb_0)))))) (by decide) (by decide)
theorem gX12_bring_52 {l : Launch} {G : xG} (hl : l.stackTraces = false) (x0 : Nat) (h0 : xOb 12 x0) (x1 : Int) (h1 : R32 x1) (x2 : Int) (h2 : R32 x2) (x3 : Int) (h3 : B01 x3) (x4 : Int) (h4 : B01 x4) (s0 : Int) (hs0 : R64 s0) (s1 : Int) (hs1 : R32 s1) (s2 : Nat) (hs2 : xAn 1 1550 s2) (M : xM) (hM : xcan M) : Gv l G uX12_bring 4 2 0 0 52 [some (.ref x0), some (iv x1), some (iv x2), some (iv x3), some (iv x4), none] [jv s0, iv s1, .ref s2] M (fX12_bring_52 x0 x1 x2 x3 x4 s0 s1 s2 M) := by
  unfold fX12_bring_52
  refine xg_lconst (z := 0) dX12_bring_52 (Eq.refl 53) rfl ?_
  exact xg_jump (gX12_bring_53 hl x0 h0 x1 h1 x2 h2 x3 h3 x4 h4 0 (by decide) s0 hs0 s1 hs1 s2 hs2 M hM) (xsb_s (xsb_s (xsb_s (xsb_s (xsb_s (xsb_n xsb_0)))))) (by decide) (by decide)
theorem gX12_bring_35 {l : Launch} {G : xG} (hl : l.stackTraces = false) (x0 : Nat) (h0 : xOb 12 x0) (x1 : Int) (h1 : R32 x1) (x2 : Int) (h2 : R32 x2) (x3 : Int) (h3 : B01 x3) (x4 : Int) (h4 : B01 x4) (s0 : Int) (hs0 : R32 s0) (s1 : Int) (hs1 : R32 s1) (s2 : Nat) (hs2 : xAn 1 1550 s2) (M : xM) (hM : xcan M) : Gv l G uX12_bring 4 2 0 0 35 [some (.ref x0), some (iv x1), some (iv x2), some (iv x3), some (iv x4), none] [iv s0, iv s1, .ref s2] M (fX12_bring_35 x0 x1 x2 x3 x4 s0 s1 s2 M) := by
  unfold fX12_bring_35
  refine xg_iadd dX12_bring_35 (Eq.refl 36) ?_
  refine xg_dup2 dX12_bring_36 (Eq.refl 37) rfl rfl ?_
  refine xg_lald hs2 dX12_bring_37 (Eq.refl 38) ?_
  refine xg_iload_n dX12_bring_38 (Eq.refl 39) rfl ?_
  refine xg_if_eq (tgt := 52) dX12_bring_39 (Eq.refl 42) (by decide) (B01.r h3) ?_ ?_
  · exact xg_jump (gX12_bring_52 hl x0 h0 x1 h1 x2 h2 x3 h3 x4 h4 (M s2 (w32 (s1 + s0)).toNat) (hM.aj hs2) (w32 (s1 + s0)) (w32_r _) s2 hs2 M hM) (xsb_s (xsb_s (xsb_s (xsb_s (xsb_s (xsb_n xsb_0)))))) (by decide) (by decide)
  · refine xg_iload dX12_bring_42 (Eq.refl 44) rfl ?_
    refine xg_if_eq (tgt := 52) dX12_bring_44 (Eq.refl 47) (by decide) (B01.r h4) ?_ ?_
    · exact xg_jump (gX12_bring_52 hl x0 h0 x1 h1 x2 h2 x3 h3 x4 h4 (M s2 (w32 (s1 + s0)).toNat) (hM.aj hs2) (w32 (s1 + s0)) (w32_r _) s2 hs2 M hM) (xsb_s (xsb_s (xsb_s (xsb_s (xsb_s (xsb_n xsb_0)))))) (by decide) (by decide)
    · refine xg_iload_n dX12_bring_47 (Eq.refl 48) rfl ?_
      refine xg_i2l dX12_bring_48 (Eq.refl 49) h2 ?_
      refine xg_goto (tgt := 53) dX12_bring_49 (by decide) ?_
      exact xg_jump (gX12_bring_53 hl x0 h0 x1 h1 x2 h2 x3 h3 x4 h4 x2 (R32.j h2) (M s2 (w32 (s1 + s0)).toNat) (hM.aj hs2) (w32 (s1 + s0)) (w32_r _) s2 hs2 M hM) (xsb_s (xsb_s (xsb_s (xsb_s (xsb_s (xsb_n xsb_0)))))) (by decide) (by decide)
theorem mX12_bring {l : Launch} {G : xG} (hl : l.stackTraces = false) (x0 : Nat) (h0 : xOb 12 x0) (x1 : Int) (h1 : R32 x1) (x2 : Int) (h2 : R32 x2) (M : xM) (hM : xcan M) : Cm l G yX12_bring cX12_bring 6 (some .long) 4 2 0 0 [.ref x0, iv x1, iv x2] M (fX12_bring x0 x1 x2 M) := by
  refine xcm_of (u := uX12_bring) (ls := [some (.ref x0), some (iv x1), some (iv x2), none, none, none]) 3 hl rfl (by decide +kernel) (Nat.le_of_ble_eq_true rfl) rfl ?_
  unfold fX12_bring
  refine xg_aload_n dX12_bring_0 (Eq.refl 1) rfl ?_
  refine xg_iload_n dX12_bring_1 (Eq.refl 2) rfl ?_
  refine xg_callV_Z (kc := 0) (ks := 0) (st := []) (mX12_isAccount hl x0 h0 x1 h1 M hM) bX12_isAccount xcl12 h0 rfl xq_183 rfl (by decide) rfl (by decide) dX12_bring_2 (Eq.refl 5) rfl (by decide) (by decide) ?_
  intro z1 M2 hz1 hM2
  refine xg_istore_n (ls2 := [some (.ref x0), some (iv x1), some (iv x2), some (iv z1), none, none]) dX12_bring_5 (Eq.refl 6) (by decide) rfl ?_
  refine xg_aload_n dX12_bring_6 (Eq.refl 7) rfl ?_
  refine xg_iload_n dX12_bring_7 (Eq.refl 8) rfl ?_
  refine xg_i2l dX12_bring_8 (Eq.refl 9) h2 ?_
  refine xg_ldc2 (z := (-1000000)) xq_357 dX12_bring_9 (Eq.refl 12) (by decide +kernel) ?_
  refine xg_ldc2 (z := 1000000) xq_177 dX12_bring_12 (Eq.refl 15) (by decide +kernel) ?_
  refine xg_callV_Z (kc := 0) (ks := 0) (st := []) (mX12_in hl x0 h0 x2 (R32.j h2) (-1000000) (by decide) 1000000 (by decide) M2 hM2) bX12_in xcl12 h0 rfl xq_179 rfl (by decide) rfl (by decide) dX12_bring_15 (Eq.refl 18) rfl (by decide) (by decide) ?_
  intro z3 M4 hz3 hM4
  refine xg_istore (ls2 := [some (.ref x0), some (iv x1), some (iv x2), some (iv z1), some (iv z3), none]) dX12_bring_18 (Eq.refl 20) (by decide) rfl ?_
  refine xg_aload_n dX12_bring_20 (Eq.refl 21) rfl ?_
  refine xg_getR (k := 0) xcl12 h0 rfl xq_122 rfl (xt_12_0 h0).1 dX12_bring_21 (Eq.refl 24) ?_
  refine xg_bipush dX12_bring_24 (Eq.refl 26) (by decide +kernel) ?_
  refine xg_iload_n dX12_bring_26 (Eq.refl 27) rfl ?_
  refine xg_if_eq (tgt := 34) dX12_bring_27 (Eq.refl 30) (by decide) (B01.r hz1) ?_ ?_
  · refine xg_iconst dX12_bring_34 (Eq.refl 35) ?_
    exact xg_jump (gX12_bring_35 hl x0 h0 x1 h1 x2 h2 z1 hz1 z3 hz3 0 (by decide) 30 (by decide) (xr x0 0) (xt_12_0 h0).2 M4 hM4) (xsb_s (xsb_s (xsb_s (xsb_s (xsb_s (xsb_n xsb_0)))))) (by decide) (by decide)
  · refine xg_iload_n dX12_bring_30 (Eq.refl 31) rfl ?_
    refine xg_goto (tgt := 35) dX12_bring_31 (by decide) ?_
    exact xg_jump (gX12_bring_35 hl x0 h0 x1 h1 x2 h2 z1 hz1 z3 hz3 x1 h1 30 (by decide) (xr x0 0) (xt_12_0 h0).2 M4 hM4) (xsb_s (xsb_s (xsb_s (xsb_s (xsb_s (xsb_n xsb_0)))))) (by decide) (by decide)
abbrev uX12_mate : xU := (RX12, cX12_mate, 10, (some .int), [], "mate")
theorem bX12_mate : xYV yX12_mate cX12_mate 10 (some .int) 1 := ⟨xq_481, xq_482, xq_5, xq_483, ⟨by decide +kernel, by decide +kernel, by decide +kernel⟩, by decide⟩
theorem gX12_mate_307 {l : Launch} {G : xG} (hl : l.stackTraces = false) (rc9 : Int → Int → Int → xM → xO) (x0 : Nat) (h0 : xOb 12 x0) (x1 : Int) (h1 : R32 x1) (x2 : Int) (h2 : R32 x2) (x3 : Int) (h3 : R64 x3) (x5 : Int) (h5 : R32 x5) (hr9 : ∀ w2 : Int, R32 w2 → ∀ w3 : Int, R64 w3 → ∀ w5 : Int, R32 w5 → ∀ M : xM, xcan M → Gv l G uX12_mate 1 0 0 0 9 [some (.ref x0), some (iv x1), some (iv w2), some (jv w3), none, some (iv w5), none, none, none, none] [] M (rc9 w2 w3 w5 M)) (M : xM) (hM : xcan M) : Gv l G uX12_mate 1 0 0 0 307 [some (.ref x0), some (iv x1), some (iv x2), some (jv x3), none, some (iv x5), none, none, none, none] [] M (fX12_mate_307 rc9 x0 x1 x2 x3 x5 M) := by
  unfold fX12_mate_307
  refine xg_iinc (ls2 := [some (.ref x0), some (iv x1), some (iv x2), some (jv x3), none, some (iv (w32 (x5 + 1))), none, none, none, none]) dX12_mate_307 (Eq.refl 310) rfl (by decide) rfl ?_
  refine xg_goto (tgt := 9) dX12_mate_310 (by decide) ?_
  exact xg_jump (hr9 x2 h2 x3 h3 (w32 (x5 + 1)) (w32_r _) M hM) (xsb_s (xsb_s (xsb_s (xsb_s (xsb_n (xsb_s (xsb_n (xsb_n (xsb_n (xsb_n xsb_0)))))))))) (by decide) (by decide)
theorem gX12_mate_260 {l : Launch} {G : xG} (hl : l.stackTraces = false) (rc9 : Int → Int → Int → xM → xO) (x0 : Nat) (h0 : xOb 12 x0) (x1 : Int) (h1 : R32 x1) (x2 : Int) (h2 : R32 x2) (x3 : Int) (h3 : R64 x3) (x5 : Int) (h5 : R32 x5) (x6 : Int) (h6 : B01 x6) (x7 : Int) (h7 : B01 x7) (s0 : Int) (hs0 : R64 s0) (hr9 : ∀ w2 : Int, R32 w2 → ∀ w3 : Int, R64 w3 → ∀ w5 : Int, R32 w5 → ∀ M : xM, xcan M → Gv l G uX12_mate 1 0 0 0 9 [some (.ref x0), some (iv x1), some (iv w2), some (jv w3), none, some (iv w5), none, none, none, none] [] M (rc9 w2 w3 w5 M)) (M : xM) (hM : xcan M) : Gv l G uX12_mate 1 0 0 0 260 [some (.ref x0), some (iv x1), some (iv x2), some (jv x3), none, some (iv x5), some (iv x6), some (iv x7), none, none] [jv s0] M (fX12_mate_260 rc9 x0 x1 x2 x3 x5 x6 x7 s0 M) := by
  unfold fX12_mate_260
  refine xg_lstore (ls2 := [some (.ref x0), some (iv x1), some (iv x2), some (jv x3), none, some (iv x5), some (iv x6), some (iv x7), some (jv s0), none]) dX12_mate_260 (Eq.refl 262) (by decide) rfl ?_
  refine xg_iload dX12_mate_262 (Eq.refl 264) rfl ?_
  refine xg_iload_n dX12_mate_264 (Eq.refl 265) rfl ?_
  refine xg_icmp_eq (tgt := 307) dX12_mate_265 (Eq.refl 268) (by decide) h5 h1 ?_ ?_
  · exact xg_jump (gX12_mate_307 hl rc9 x0 h0 x1 h1 x2 h2 x3 h3 x5 h5 hr9 M hM) (xsb_s (xsb_s (xsb_s (xsb_s (xsb_n (xsb_s (xsb_n (xsb_n (xsb_n (xsb_n xsb_0)))))))))) (by decide) (by decide)
  · refine xg_aload_n dX12_mate_268 (Eq.refl 269) rfl ?_
    refine xg_getR (k := 0) xcl12 h0 rfl xq_122 rfl (xt_12_0 h0).1 dX12_mate_269 (Eq.refl 272) ?_
    refine xg_sipush dX12_mate_272 (Eq.refl 275) (by decide +kernel) ?_
    refine xg_iload dX12_mate_275 (Eq.refl 277) rfl ?_
    refine xg_iadd dX12_mate_277 (Eq.refl 278) ?_
    refine xg_lald (xt_12_0 h0).2 dX12_mate_278 (Eq.refl 279) ?_
    refine xg_lconst (z := 0) dX12_mate_279 (Eq.refl 280) rfl ?_
    refine xg_lif_ne (tgt := 307) dX12_mate_280 (Eq.refl 281) dX12_mate_281 (Eq.refl 284) (by decide) (hM.aj (xt_12_0 h0).2) (by decide) ?_ ?_
    · refine xg_iload dX12_mate_284 (Eq.refl 286) rfl ?_
      refine xg_if_eq (tgt := 307) dX12_mate_286 (Eq.refl 289) (by decide) (B01.r h6) ?_ ?_
      · exact xg_jump (gX12_mate_307 hl rc9 x0 h0 x1 h1 x2 h2 x3 h3 x5 h5 hr9 M hM) (xsb_s (xsb_s (xsb_s (xsb_s (xsb_n (xsb_s (xsb_n (xsb_n (xsb_n (xsb_n xsb_0)))))))))) (by decide) (by decide)
      · refine xg_iload dX12_mate_289 (Eq.refl 291) rfl ?_
        refine xg_if_eq (tgt := 307) dX12_mate_291 (Eq.refl 294) (by decide) (B01.r h7) ?_ ?_
        · exact xg_jump (gX12_mate_307 hl rc9 x0 h0 x1 h1 x2 h2 x3 h3 x5 h5 hr9 M hM) (xsb_s (xsb_s (xsb_s (xsb_s (xsb_n (xsb_s (xsb_n (xsb_n (xsb_n (xsb_n xsb_0)))))))))) (by decide) (by decide)
        · refine xg_lload dX12_mate_294 (Eq.refl 296) rfl ?_
          refine xg_lload_n dX12_mate_296 (Eq.refl 297) rfl ?_
          refine xg_lif_ge (tgt := 307) dX12_mate_297 (Eq.refl 298) dX12_mate_298 (Eq.refl 301) (by decide) hs0 h3 ?_ ?_
          · exact xg_jump (gX12_mate_307 hl rc9 x0 h0 x1 h1 x2 h2 x3 h3 x5 h5 hr9 M hM) (xsb_s (xsb_s (xsb_s (xsb_s (xsb_n (xsb_s (xsb_n (xsb_n (xsb_n (xsb_n xsb_0)))))))))) (by decide) (by decide)
          · refine xg_iload dX12_mate_301 (Eq.refl 303) rfl ?_
            refine xg_istore_n (ls2 := [some (.ref x0), some (iv x1), some (iv x5), some (jv x3), none, some (iv x5), some (iv x6), some (iv x7), some (jv s0), none]) dX12_mate_303 (Eq.refl 304) (by decide) rfl ?_
            refine xg_lload dX12_mate_304 (Eq.refl 306) rfl ?_
            refine xg_lstore_n (ls2 := [some (.ref x0), some (iv x1), some (iv x5), some (jv s0), none, some (iv x5), some (iv x6), some (iv x7), some (jv s0), none]) dX12_mate_306 (Eq.refl 307) (by decide) rfl ?_
            exact xg_jump (gX12_mate_307 hl rc9 x0 h0 x1 h1 x5 h5 s0 hs0 x5 h5 hr9 M hM) (xsb_s (xsb_s (xsb_s (xsb_s (xsb_n (xsb_s (xsb_n (xsb_n (xsb_n (xsb_n xsb_0)))))))))) (by decide) (by decide)
    · exact xg_jump (gX12_mate_307 hl rc9 x0 h0 x1 h1 x2 h2 x3 h3 x5 h5 hr9 M hM) (xsb_s (xsb_s (xsb_s (xsb_s (xsb_n (xsb_s (xsb_n (xsb_n (xsb_n (xsb_n xsb_0)))))))))) (by decide) (by decide)
theorem gX12_mate_186 {l : Launch} {G : xG} (hl : l.stackTraces = false) (rc9 : Int → Int → Int → xM → xO) (x0 : Nat) (h0 : xOb 12 x0) (x1 : Int) (h1 : R32 x1) (x2 : Int) (h2 : R32 x2) (x3 : Int) (h3 : R64 x3) (x5 : Int) (h5 : R32 x5) (x6 : Int) (h6 : B01 x6) (s0 : Int) (hs0 : B01 s0) (hr9 : ∀ w2 : Int, R32 w2 → ∀ w3 : Int, R64 w3 → ∀ w5 : Int, R32 w5 → ∀ M : xM, xcan M → Gv l G uX12_mate 1 0 0 0 9 [some (.ref x0), some (iv x1), some (iv w2), some (jv w3), none, some (iv w5), none, none, none, none] [] M (rc9 w2 w3 w5 M)) (M : xM) (hM : xcan M) : Gv l G uX12_mate 1 0 0 0 186 [some (.ref x0), some (iv x1), some (iv x2), some (jv x3), none, some (iv x5), some (iv x6), none, none, none] [iv s0] M (fX12_mate_186 rc9 x0 x1 x2 x3 x5 x6 s0 M) := by
  unfold fX12_mate_186
  refine xg_istore (ls2 := [some (.ref x0), some (iv x1), some (iv x2), some (jv x3), none, some (iv x5), some (iv x6), some (iv s0), none, none]) dX12_mate_186 (Eq.refl 188) (by decide) rfl ?_
  refine xg_aload_n dX12_mate_188 (Eq.refl 189) rfl ?_
  refine xg_getR (k := 0) xcl12 h0 rfl xq_122 rfl (xt_12_0 h0).1 dX12_mate_189 (Eq.refl 192) ?_
  refine xg_sipush dX12_mate_192 (Eq.refl 195) (by decide +kernel) ?_
  refine xg_iload dX12_mate_195 (Eq.refl 197) rfl ?_
  refine xg_iadd dX12_mate_197 (Eq.refl 198) ?_
  refine xg_lald (xt_12_0 h0).2 dX12_mate_198 (Eq.refl 199) ?_
  refine xg_aload_n dX12_mate_199 (Eq.refl 200) rfl ?_
  refine xg_getR (k := 0) xcl12 h0 rfl xq_122 rfl (xt_12_0 h0).1 dX12_mate_200 (Eq.refl 203) ?_
  refine xg_sipush dX12_mate_203 (Eq.refl 206) (by decide +kernel) ?_
  refine xg_iload_n dX12_mate_206 (Eq.refl 207) rfl ?_
  refine xg_iadd dX12_mate_207 (Eq.refl 208) ?_
  refine xg_lald (xt_12_0 h0).2 dX12_mate_208 (Eq.refl 209) ?_
  refine xg_lif_ge (tgt := 238) dX12_mate_209 (Eq.refl 210) dX12_mate_210 (Eq.refl 213) (by decide) (hM.aj (xt_12_0 h0).2) (hM.aj (xt_12_0 h0).2) ?_ ?_
  · refine xg_aload_n dX12_mate_238 (Eq.refl 239) rfl ?_
    refine xg_getR (k := 0) xcl12 h0 rfl xq_122 rfl (xt_12_0 h0).1 dX12_mate_239 (Eq.refl 242) ?_
    refine xg_sipush dX12_mate_242 (Eq.refl 245) (by decide +kernel) ?_
    refine xg_iload dX12_mate_245 (Eq.refl 247) rfl ?_
    refine xg_iadd dX12_mate_247 (Eq.refl 248) ?_
    refine xg_lald (xt_12_0 h0).2 dX12_mate_248 (Eq.refl 249) ?_
    refine xg_aload_n dX12_mate_249 (Eq.refl 250) rfl ?_
    refine xg_getR (k := 0) xcl12 h0 rfl xq_122 rfl (xt_12_0 h0).1 dX12_mate_250 (Eq.refl 253) ?_
    refine xg_sipush dX12_mate_253 (Eq.refl 256) (by decide +kernel) ?_
    refine xg_iload_n dX12_mate_256 (Eq.refl 257) rfl ?_
    refine xg_iadd dX12_mate_257 (Eq.refl 258) ?_
    refine xg_lald (xt_12_0 h0).2 dX12_mate_258 (Eq.refl 259) ?_
    refine xg_lsub dX12_mate_259 (Eq.refl 260) ?_
    exact xg_jump (gX12_mate_260 hl rc9 x0 h0 x1 h1 x2 h2 x3 h3 x5 h5 x6 h6 s0 hs0 (w64 ((M (xr x0 0) (w32 (410 + x5)).toNat) - (M (xr x0 0) (w32 (410 + x1)).toNat))) (w64_r _) hr9 M hM) (xsb_s (xsb_s (xsb_s (xsb_s (xsb_n (xsb_s (xsb_s (xsb_s (xsb_n (xsb_n xsb_0)))))))))) (by decide) (by decide)
  · refine xg_aload_n dX12_mate_213 (Eq.refl 214) rfl ?_
    refine xg_getR (k := 0) xcl12 h0 rfl xq_122 rfl (xt_12_0 h0).1 dX12_mate_214 (Eq.refl 217) ?_
    refine xg_sipush dX12_mate_217 (Eq.refl 220) (by decide +kernel) ?_
    refine xg_iload_n dX12_mate_220 (Eq.refl 221) rfl ?_
    refine xg_iadd dX12_mate_221 (Eq.refl 222) ?_
    refine xg_lald (xt_12_0 h0).2 dX12_mate_222 (Eq.refl 223) ?_
    refine xg_aload_n dX12_mate_223 (Eq.refl 224) rfl ?_
    refine xg_getR (k := 0) xcl12 h0 rfl xq_122 rfl (xt_12_0 h0).1 dX12_mate_224 (Eq.refl 227) ?_
    refine xg_sipush dX12_mate_227 (Eq.refl 230) (by decide +kernel) ?_
    refine xg_iload dX12_mate_230 (Eq.refl 232) rfl ?_
    refine xg_iadd dX12_mate_232 (Eq.refl 233) ?_
    refine xg_lald (xt_12_0 h0).2 dX12_mate_233 (Eq.refl 234) ?_
    refine xg_lsub dX12_mate_234 (Eq.refl 235) ?_
    refine xg_goto (tgt := 260) dX12_mate_235 (by decide) ?_
    exact xg_jump (gX12_mate_260 hl rc9 x0 h0 x1 h1 x2 h2 x3 h3 x5 h5 x6 h6 s0 hs0 (w64 ((M (xr x0 0) (w32 (410 + x1)).toNat) - (M (xr x0 0) (w32 (410 + x5)).toNat))) (w64_r _) hr9 M hM) (xsb_s (xsb_s (xsb_s (xsb_s (xsb_n (xsb_s (xsb_s (xsb_s (xsb_n (xsb_n xsb_0)))))))))) (by decide) (by decide)
theorem gX12_mate_185 {l : Launch} {G : xG} (hl : l.stackTraces = false) (rc9 : Int → Int → Int → xM → xO) (x0 : Nat) (h0 : xOb 12 x0) (x1 : Int) (h1 : R32 x1) (x2 : Int) (h2 : R32 x2) (x3 : Int) (h3 : R64 x3) (x5 : Int) (h5 : R32 x5) (x6 : Int) (h6 : B01 x6) (hr9 : ∀ w2 : Int, R32 w2 → ∀ w3 : Int, R64 w3 → ∀ w5 : Int, R32 w5 → ∀ M : xM, xcan M → Gv l G uX12_mate 1 0 0 0 9 [some (.ref x0), some (iv x1), some (iv w2), some (jv w3), none, some (iv w5), none, none, none, none] [] M (rc9 w2 w3 w5 M)) (M : xM) (hM : xcan M) : Gv l G uX12_mate 1 0 0 0 185 [some (.ref x0), some (iv x1), some (iv x2), some (jv x3), none, some (iv x5), some (iv x6), none, none, none] [] M (fX12_mate_185 rc9 x0 x1 x2 x3 x5 x6 M) := by
  unfold fX12_mate_185
  refine xg_iconst dX12_mate_185 (Eq.refl 186) ?_
  exact xg_jump (gX12_mate_186 hl rc9 x0 h0 x1 h1 x2 h2 x3 h3 x5 h5 x6 h6 0 (by decide) hr9 M hM) (xsb_s (xsb_s (xsb_s (xsb_s (xsb_n (xsb_s (xsb_s (xsb_n (xsb_n (xsb_n xsb_0)))))))))) (by decide) (by decide)
theorem gX12_mate_104 {l : Launch} {G : xG} (hl : l.stackTraces = false) (rc9 : Int → Int → Int → xM → xO) (x0 : Nat) (h0 : xOb 12 x0) (x1 : Int) (h1 : R32 x1) (x2 : Int) (h2 : R32 x2) (x3 : Int) (h3 : R64 x3) (x5 : Int) (h5 : R32 x5) (s0 : Int) (hs0 : B01 s0) (hr9 : ∀ w2 : Int, R32 w2 → ∀ w3 : Int, R64 w3 → ∀ w5 : Int, R32 w5 → ∀ M : xM, xcan M → Gv l G uX12_mate 1 0 0 0 9 [some (.ref x0), some (iv x1), some (iv w2), some (jv w3), none, some (iv w5), none, none, none, none] [] M (rc9 w2 w3 w5 M)) (M : xM) (hM : xcan M) : Gv l G uX12_mate 1 0 0 0 104 [some (.ref x0), some (iv x1), some (iv x2), some (jv x3), none, some (iv x5), none, none, none, none] [iv s0] M (fX12_mate_104 rc9 x0 x1 x2 x3 x5 s0 M) := by
  unfold fX12_mate_104
  refine xg_istore (ls2 := [some (.ref x0), some (iv x1), some (iv x2), some (jv x3), none, some (iv x5), some (iv s0), none, none, none]) dX12_mate_104 (Eq.refl 106) (by decide) rfl ?_
  refine xg_aload_n dX12_mate_106 (Eq.refl 107) rfl ?_
  refine xg_getR (k := 0) xcl12 h0 rfl xq_122 rfl (xt_12_0 h0).1 dX12_mate_107 (Eq.refl 110) ?_
  refine xg_sipush dX12_mate_110 (Eq.refl 113) (by decide +kernel) ?_
  refine xg_iload dX12_mate_113 (Eq.refl 115) rfl ?_
  refine xg_iadd dX12_mate_115 (Eq.refl 116) ?_
  refine xg_lald (xt_12_0 h0).2 dX12_mate_116 (Eq.refl 117) ?_
  refine xg_aload_n dX12_mate_117 (Eq.refl 118) rfl ?_
  refine xg_getR (k := 0) xcl12 h0 rfl xq_122 rfl (xt_12_0 h0).1 dX12_mate_118 (Eq.refl 121) ?_
  refine xg_sipush dX12_mate_121 (Eq.refl 124) (by decide +kernel) ?_
  refine xg_iload_n dX12_mate_124 (Eq.refl 125) rfl ?_
  refine xg_iadd dX12_mate_125 (Eq.refl 126) ?_
  refine xg_lald (xt_12_0 h0).2 dX12_mate_126 (Eq.refl 127) ?_
  refine xg_lif_ne (tgt := 185) dX12_mate_127 (Eq.refl 128) dX12_mate_128 (Eq.refl 131) (by decide) (hM.aj (xt_12_0 h0).2) (hM.aj (xt_12_0 h0).2) ?_ ?_
  · refine xg_aload_n dX12_mate_131 (Eq.refl 132) rfl ?_
    refine xg_getR (k := 0) xcl12 h0 rfl xq_122 rfl (xt_12_0 h0).1 dX12_mate_132 (Eq.refl 135) ?_
    refine xg_sipush dX12_mate_135 (Eq.refl 138) (by decide +kernel) ?_
    refine xg_iload dX12_mate_138 (Eq.refl 140) rfl ?_
    refine xg_iadd dX12_mate_140 (Eq.refl 141) ?_
    refine xg_lald (xt_12_0 h0).2 dX12_mate_141 (Eq.refl 142) ?_
    refine xg_aload_n dX12_mate_142 (Eq.refl 143) rfl ?_
    refine xg_getR (k := 0) xcl12 h0 rfl xq_122 rfl (xt_12_0 h0).1 dX12_mate_143 (Eq.refl 146) ?_
    refine xg_sipush dX12_mate_146 (Eq.refl 149) (by decide +kernel) ?_
    refine xg_iload_n dX12_mate_149 (Eq.refl 150) rfl ?_
    refine xg_iadd dX12_mate_150 (Eq.refl 151) ?_
    refine xg_lald (xt_12_0 h0).2 dX12_mate_151 (Eq.refl 152) ?_
    refine xg_lif_ne (tgt := 185) dX12_mate_152 (Eq.refl 153) dX12_mate_153 (Eq.refl 156) (by decide) (hM.aj (xt_12_0 h0).2) (hM.aj (xt_12_0 h0).2) ?_ ?_
    · refine xg_aload_n dX12_mate_156 (Eq.refl 157) rfl ?_
      refine xg_getR (k := 0) xcl12 h0 rfl xq_122 rfl (xt_12_0 h0).1 dX12_mate_157 (Eq.refl 160) ?_
      refine xg_sipush dX12_mate_160 (Eq.refl 163) (by decide +kernel) ?_
      refine xg_iload dX12_mate_163 (Eq.refl 165) rfl ?_
      refine xg_iadd dX12_mate_165 (Eq.refl 166) ?_
      refine xg_lald (xt_12_0 h0).2 dX12_mate_166 (Eq.refl 167) ?_
      refine xg_aload_n dX12_mate_167 (Eq.refl 168) rfl ?_
      refine xg_getR (k := 0) xcl12 h0 rfl xq_122 rfl (xt_12_0 h0).1 dX12_mate_168 (Eq.refl 171) ?_
      refine xg_sipush dX12_mate_171 (Eq.refl 174) (by decide +kernel) ?_
      refine xg_iload_n dX12_mate_174 (Eq.refl 175) rfl ?_
      refine xg_iadd dX12_mate_175 (Eq.refl 176) ?_
      refine xg_lald (xt_12_0 h0).2 dX12_mate_176 (Eq.refl 177) ?_
      refine xg_lif_ne (tgt := 185) dX12_mate_177 (Eq.refl 178) dX12_mate_178 (Eq.refl 181) (by decide) (hM.aj (xt_12_0 h0).2) (hM.aj (xt_12_0 h0).2) ?_ ?_
      · refine xg_iconst dX12_mate_181 (Eq.refl 182) ?_
        refine xg_goto (tgt := 186) dX12_mate_182 (by decide) ?_
        exact xg_jump (gX12_mate_186 hl rc9 x0 h0 x1 h1 x2 h2 x3 h3 x5 h5 s0 hs0 1 (by decide) hr9 M hM) (xsb_s (xsb_s (xsb_s (xsb_s (xsb_n (xsb_s (xsb_s (xsb_n (xsb_n (xsb_n xsb_0)))))))))) (by decide) (by decide)
      · exact xg_jump (gX12_mate_185 hl rc9 x0 h0 x1 h1 x2 h2 x3 h3 x5 h5 s0 hs0 hr9 M hM) (xsb_s (xsb_s (xsb_s (xsb_s (xsb_n (xsb_s (xsb_s (xsb_n (xsb_n (xsb_n xsb_0)))))))))) (by decide) (by decide)
    · exact xg_jump (gX12_mate_185 hl rc9 x0 h0 x1 h1 x2 h2 x3 h3 x5 h5 s0 hs0 hr9 M hM) (xsb_s (xsb_s (xsb_s (xsb_s (xsb_n (xsb_s (xsb_s (xsb_n (xsb_n (xsb_n xsb_0)))))))))) (by decide) (by decide)
  · exact xg_jump (gX12_mate_185 hl rc9 x0 h0 x1 h1 x2 h2 x3 h3 x5 h5 s0 hs0 hr9 M hM) (xsb_s (xsb_s (xsb_s (xsb_s (xsb_n (xsb_s (xsb_s (xsb_n (xsb_n (xsb_n xsb_0)))))))))) (by decide) (by decide)
theorem gX12_mate_103 {l : Launch} {G : xG} (hl : l.stackTraces = false) (rc9 : Int → Int → Int → xM → xO) (x0 : Nat) (h0 : xOb 12 x0) (x1 : Int) (h1 : R32 x1) (x2 : Int) (h2 : R32 x2) (x3 : Int) (h3 : R64 x3) (x5 : Int) (h5 : R32 x5) (hr9 : ∀ w2 : Int, R32 w2 → ∀ w3 : Int, R64 w3 → ∀ w5 : Int, R32 w5 → ∀ M : xM, xcan M → Gv l G uX12_mate 1 0 0 0 9 [some (.ref x0), some (iv x1), some (iv w2), some (jv w3), none, some (iv w5), none, none, none, none] [] M (rc9 w2 w3 w5 M)) (M : xM) (hM : xcan M) : Gv l G uX12_mate 1 0 0 0 103 [some (.ref x0), some (iv x1), some (iv x2), some (jv x3), none, some (iv x5), none, none, none, none] [] M (fX12_mate_103 rc9 x0 x1 x2 x3 x5 M) := by
  unfold fX12_mate_103
  refine xg_iconst dX12_mate_103 (Eq.refl 104) ?_
  exact xg_jump (gX12_mate_104 hl rc9 x0 h0 x1 h1 x2 h2 x3 h3 x5 h5 0 (by decide) hr9 M hM) (xsb_s (xsb_s (xsb_s (xsb_s (xsb_n (xsb_s (xsb_n (xsb_n (xsb_n (xsb_n xsb_0)))))))))) (by decide) (by decide)
theorem gX12_mate_9 {l : Launch} {G : xG} (hl : l.stackTraces = false) (x0 : Nat) (h0 : xOb 12 x0) (x1 : Int) (h1 : R32 x1) : ∀ (n : Nat) (x2 : Int) (_ : R32 x2) (x3 : Int) (_ : R64 x3) (x5 : Int) (_ : R32 x5) (M : xM) (_ : xcan M), Gv l G uX12_mate 1 0 0 0 9 [some (.ref x0), some (iv x1), some (iv x2), some (jv x3), none, some (iv x5), none, none, none, none] [] M (fX12_mate_9 x0 x1 n x2 x3 x5 M) := by
  intro n; induction n with
  | zero => intro x2 h2 x3 h3 x5 h5 M hM; exact xg_none
  | succ n ih =>
    intro x2 h2 x3 h3 x5 h5 M hM
    rw [fX12_mate_9]
    refine xg_iload dX12_mate_9 (Eq.refl 11) rfl ?_
    refine xg_i2l dX12_mate_11 (Eq.refl 12) h5 ?_
    refine xg_aload_n dX12_mate_12 (Eq.refl 13) rfl ?_
    refine xg_getR (k := 0) xcl12 h0 rfl xq_122 rfl (xt_12_0 h0).1 dX12_mate_13 (Eq.refl 16) ?_
    refine xg_sipush dX12_mate_16 (Eq.refl 19) (by decide +kernel) ?_
    refine xg_laldk (k := 1542) (xt_12_0 h0).2 dX12_mate_19 (Eq.refl 20) rfl (by decide) ?_
    refine xg_lif_ge (tgt := 313) dX12_mate_20 (Eq.refl 21) dX12_mate_21 (Eq.refl 24) (by decide) (R32.j h5) (hM.aj (xt_12_0 h0).2) ?_ ?_
    · refine xg_iload_n dX12_mate_313 (Eq.refl 314) rfl ?_
      exact xg_iret rfl dX12_mate_314 rfl hM h2
    · refine xg_aload_n dX12_mate_24 (Eq.refl 25) rfl ?_
      refine xg_getR (k := 0) xcl12 h0 rfl xq_122 rfl (xt_12_0 h0).1 dX12_mate_25 (Eq.refl 28) ?_
      refine xg_sipush dX12_mate_28 (Eq.refl 31) (by decide +kernel) ?_
      refine xg_iload dX12_mate_31 (Eq.refl 33) rfl ?_
      refine xg_iadd dX12_mate_33 (Eq.refl 34) ?_
      refine xg_lald (xt_12_0 h0).2 dX12_mate_34 (Eq.refl 35) ?_
      refine xg_aload_n dX12_mate_35 (Eq.refl 36) rfl ?_
      refine xg_getR (k := 0) xcl12 h0 rfl xq_122 rfl (xt_12_0 h0).1 dX12_mate_36 (Eq.refl 39) ?_
      refine xg_sipush dX12_mate_39 (Eq.refl 42) (by decide +kernel) ?_
      refine xg_iload_n dX12_mate_42 (Eq.refl 43) rfl ?_
      refine xg_iadd dX12_mate_43 (Eq.refl 44) ?_
      refine xg_lald (xt_12_0 h0).2 dX12_mate_44 (Eq.refl 45) ?_
      refine xg_lif_ne (tgt := 103) dX12_mate_45 (Eq.refl 46) dX12_mate_46 (Eq.refl 49) (by decide) (hM.aj (xt_12_0 h0).2) (hM.aj (xt_12_0 h0).2) ?_ ?_
      · refine xg_aload_n dX12_mate_49 (Eq.refl 50) rfl ?_
        refine xg_getR (k := 0) xcl12 h0 rfl xq_122 rfl (xt_12_0 h0).1 dX12_mate_50 (Eq.refl 53) ?_
        refine xg_sipush dX12_mate_53 (Eq.refl 56) (by decide +kernel) ?_
        refine xg_iload dX12_mate_56 (Eq.refl 58) rfl ?_
        refine xg_iadd dX12_mate_58 (Eq.refl 59) ?_
        refine xg_lald (xt_12_0 h0).2 dX12_mate_59 (Eq.refl 60) ?_
        refine xg_aload_n dX12_mate_60 (Eq.refl 61) rfl ?_
        refine xg_getR (k := 0) xcl12 h0 rfl xq_122 rfl (xt_12_0 h0).1 dX12_mate_61 (Eq.refl 64) ?_
        refine xg_sipush dX12_mate_64 (Eq.refl 67) (by decide +kernel) ?_
        refine xg_iload_n dX12_mate_67 (Eq.refl 68) rfl ?_
        refine xg_iadd dX12_mate_68 (Eq.refl 69) ?_
        refine xg_lald (xt_12_0 h0).2 dX12_mate_69 (Eq.refl 70) ?_
        refine xg_lif_ne (tgt := 103) dX12_mate_70 (Eq.refl 71) dX12_mate_71 (Eq.refl 74) (by decide) (hM.aj (xt_12_0 h0).2) (hM.aj (xt_12_0 h0).2) ?_ ?_
        · refine xg_aload_n dX12_mate_74 (Eq.refl 75) rfl ?_
          refine xg_getR (k := 0) xcl12 h0 rfl xq_122 rfl (xt_12_0 h0).1 dX12_mate_75 (Eq.refl 78) ?_
          refine xg_sipush dX12_mate_78 (Eq.refl 81) (by decide +kernel) ?_
          refine xg_iload dX12_mate_81 (Eq.refl 83) rfl ?_
          refine xg_iadd dX12_mate_83 (Eq.refl 84) ?_
          refine xg_lald (xt_12_0 h0).2 dX12_mate_84 (Eq.refl 85) ?_
          refine xg_aload_n dX12_mate_85 (Eq.refl 86) rfl ?_
          refine xg_getR (k := 0) xcl12 h0 rfl xq_122 rfl (xt_12_0 h0).1 dX12_mate_86 (Eq.refl 89) ?_
          refine xg_sipush dX12_mate_89 (Eq.refl 92) (by decide +kernel) ?_
          refine xg_iload_n dX12_mate_92 (Eq.refl 93) rfl ?_
          refine xg_iadd dX12_mate_93 (Eq.refl 94) ?_
          refine xg_lald (xt_12_0 h0).2 dX12_mate_94 (Eq.refl 95) ?_
          refine xg_lif_eq (tgt := 103) dX12_mate_95 (Eq.refl 96) dX12_mate_96 (Eq.refl 99) (by decide) (hM.aj (xt_12_0 h0).2) (hM.aj (xt_12_0 h0).2) ?_ ?_
          · exact xg_jump (gX12_mate_103 hl (fX12_mate_9 x0 x1 n) x0 h0 x1 h1 x2 h2 x3 h3 x5 h5 ih M hM) (xsb_s (xsb_s (xsb_s (xsb_s (xsb_n (xsb_s (xsb_n (xsb_n (xsb_n (xsb_n xsb_0)))))))))) (by decide) (by decide)
          · refine xg_iconst dX12_mate_99 (Eq.refl 100) ?_
            refine xg_goto (tgt := 104) dX12_mate_100 (by decide) ?_
            exact xg_jump (gX12_mate_104 hl (fX12_mate_9 x0 x1 n) x0 h0 x1 h1 x2 h2 x3 h3 x5 h5 1 (by decide) ih M hM) (xsb_s (xsb_s (xsb_s (xsb_s (xsb_n (xsb_s (xsb_n (xsb_n (xsb_n (xsb_n xsb_0)))))))))) (by decide) (by decide)
        · exact xg_jump (gX12_mate_103 hl (fX12_mate_9 x0 x1 n) x0 h0 x1 h1 x2 h2 x3 h3 x5 h5 ih M hM) (xsb_s (xsb_s (xsb_s (xsb_s (xsb_n (xsb_s (xsb_n (xsb_n (xsb_n (xsb_n xsb_0)))))))))) (by decide) (by decide)
      · exact xg_jump (gX12_mate_103 hl (fX12_mate_9 x0 x1 n) x0 h0 x1 h1 x2 h2 x3 h3 x5 h5 ih M hM) (xsb_s (xsb_s (xsb_s (xsb_s (xsb_n (xsb_s (xsb_n (xsb_n (xsb_n (xsb_n xsb_0)))))))))) (by decide) (by decide)
theorem mX12_mate {l : Launch} {G : xG} (hl : l.stackTraces = false) (x0 : Nat) (h0 : xOb 12 x0) (x1 : Int) (h1 : R32 x1) (M : xM) (hM : xcan M) : Cm l G yX12_mate cX12_mate 10 (some .int) 1 0 0 0 [.ref x0, iv x1] M (fX12_mate x0 x1 M) := by
  refine xcm_of (u := uX12_mate) (ls := [some (.ref x0), some (iv x1), none, none, none, none, none, none, none, none]) 8 hl rfl (by decide +kernel) (Nat.le_of_ble_eq_true rfl) rfl ?_
  unfold fX12_mate
  refine xg_iconst dX12_mate_0 (Eq.refl 1) ?_
  refine xg_istore_n (ls2 := [some (.ref x0), some (iv x1), some (iv (-1)), none, none, none, none, none, none, none]) dX12_mate_1 (Eq.refl 2) (by decide) rfl ?_
  refine xg_ldc2 (z := 3) xq_484 dX12_mate_2 (Eq.refl 5) (by decide +kernel) ?_
  refine xg_lstore_n (ls2 := [some (.ref x0), some (iv x1), some (iv (-1)), some (jv 3), none, none, none, none, none, none]) dX12_mate_5 (Eq.refl 6) (by decide) rfl ?_
  refine xg_iconst dX12_mate_6 (Eq.refl 7) ?_
  refine xg_istore (ls2 := [some (.ref x0), some (iv x1), some (iv (-1)), some (jv 3), none, some (iv 0), none, none, none, none]) dX12_mate_7 (Eq.refl 9) (by decide) rfl ?_
  exact xg_jump (gX12_mate_9 hl x0 h0 x1 h1 xN (-1) (by decide) 3 (by decide) 0 (by decide) M hM) (xsb_s (xsb_s (xsb_s (xsb_s (xsb_n (xsb_s (xsb_n (xsb_n (xsb_n (xsb_n xsb_0)))))))))) (by decide) (by decide)
abbrev uX12_deliverer : xU := (RX12, cX12_deliverer, 2, (some .int), [], "deliverer")
theorem bX12_deliverer : xYV yX12_deliverer cX12_deliverer 2 (some .int) 1 := ⟨xq_494, xq_495, xq_5, xq_496, ⟨by decide +kernel, by decide +kernel, by decide +kernel⟩, by decide⟩
theorem mX12_deliverer {l : Launch} {G : xG} (hl : l.stackTraces = false) (x0 : Nat) (h0 : xOb 12 x0) (x1 : Int) (h1 : R32 x1) (M : xM) (hM : xcan M) : Cm l G yX12_deliverer cX12_deliverer 2 (some .int) 1 0 0 0 [.ref x0, iv x1] M (fX12_deliverer x0 x1 M) := by
  refine xcm_of (u := uX12_deliverer) (ls := [some (.ref x0), some (iv x1)]) 0 hl rfl (by decide +kernel) (Nat.le_of_ble_eq_true rfl) rfl ?_
  unfold fX12_deliverer
  refine xg_aload_n dX12_deliverer_0 (Eq.refl 1) rfl ?_
  refine xg_getR (k := 0) xcl12 h0 rfl xq_122 rfl (xt_12_0 h0).1 dX12_deliverer_1 (Eq.refl 4) ?_
  refine xg_sipush dX12_deliverer_4 (Eq.refl 7) (by decide +kernel) ?_
  refine xg_aload_n dX12_deliverer_7 (Eq.refl 8) rfl ?_
  refine xg_getR (k := 0) xcl12 h0 rfl xq_122 rfl (xt_12_0 h0).1 dX12_deliverer_8 (Eq.refl 11) ?_
  refine xg_sipush dX12_deliverer_11 (Eq.refl 14) (by decide +kernel) ?_
  refine xg_iload_n dX12_deliverer_14 (Eq.refl 15) rfl ?_
  refine xg_iadd dX12_deliverer_15 (Eq.refl 16) ?_
  refine xg_lald (xt_12_0 h0).2 dX12_deliverer_16 (Eq.refl 17) ?_
  refine xg_l2i dX12_deliverer_17 (Eq.refl 18) ?_
  refine xg_iadd dX12_deliverer_18 (Eq.refl 19) ?_
  refine xg_lald (xt_12_0 h0).2 dX12_deliverer_19 (Eq.refl 20) ?_
  refine xg_l2i dX12_deliverer_20 (Eq.refl 21) ?_
  exact xg_iret rfl dX12_deliverer_21 rfl hM (w32_r _)
abbrev uX12_receiver : xU := (RX12, cX12_receiver, 2, (some .int), [], "receiver")
theorem bX12_receiver : xYV yX12_receiver cX12_receiver 2 (some .int) 1 := ⟨xq_498, xq_499, xq_5, xq_500, ⟨by decide +kernel, by decide +kernel, by decide +kernel⟩, by decide⟩
theorem mX12_receiver {l : Launch} {G : xG} (hl : l.stackTraces = false) (x0 : Nat) (h0 : xOb 12 x0) (x1 : Int) (h1 : R32 x1) (M : xM) (hM : xcan M) : Cm l G yX12_receiver cX12_receiver 2 (some .int) 1 0 0 0 [.ref x0, iv x1] M (fX12_receiver x0 x1 M) := by
  refine xcm_of (u := uX12_receiver) (ls := [some (.ref x0), some (iv x1)]) 0 hl rfl (by decide +kernel) (Nat.le_of_ble_eq_true rfl) rfl ?_
  unfold fX12_receiver
  refine xg_aload_n dX12_receiver_0 (Eq.refl 1) rfl ?_
  refine xg_getR (k := 0) xcl12 h0 rfl xq_122 rfl (xt_12_0 h0).1 dX12_receiver_1 (Eq.refl 4) ?_
  refine xg_sipush dX12_receiver_4 (Eq.refl 7) (by decide +kernel) ?_
  refine xg_aload_n dX12_receiver_7 (Eq.refl 8) rfl ?_
  refine xg_getR (k := 0) xcl12 h0 rfl xq_122 rfl (xt_12_0 h0).1 dX12_receiver_8 (Eq.refl 11) ?_
  refine xg_sipush dX12_receiver_11 (Eq.refl 14) (by decide +kernel) ?_
  refine xg_iload_n dX12_receiver_14 (Eq.refl 15) rfl ?_
  refine xg_iadd dX12_receiver_15 (Eq.refl 16) ?_
  refine xg_lald (xt_12_0 h0).2 dX12_receiver_16 (Eq.refl 17) ?_
  refine xg_l2i dX12_receiver_17 (Eq.refl 18) ?_
  refine xg_iadd dX12_receiver_18 (Eq.refl 19) ?_
  refine xg_lald (xt_12_0 h0).2 dX12_receiver_19 (Eq.refl 20) ?_
  refine xg_l2i dX12_receiver_20 (Eq.refl 21) ?_
  exact xg_iret rfl dX12_receiver_21 rfl hM (w32_r _)
abbrev uX12_tell : xU := (RX12, cX12_tell, 2, none, [], "tell")
theorem bX12_tell : xYV yX12_tell cX12_tell 2 none 1 := ⟨xq_490, xq_491, xq_5, xq_492, ⟨by decide +kernel, by decide +kernel, by decide +kernel⟩, by decide⟩
theorem mX12_tell {l : Launch} {G : xG} (hl : l.stackTraces = false) (x0 : Nat) (h0 : xOb 12 x0) (x1 : Int) (h1 : R32 x1) (M : xM) (hM : xcan M) : Cm l G yX12_tell cX12_tell 2 none 2 3 0 0 [.ref x0, iv x1] M (fX12_tell x0 x1 M) := by
  refine xcm_of (u := uX12_tell) (ls := [some (.ref x0), some (iv x1)]) 0 hl rfl (by decide +kernel) (Nat.le_of_ble_eq_true rfl) rfl ?_
  unfold fX12_tell
  refine xg_aload_n dX12_tell_0 (Eq.refl 1) rfl ?_
  refine xg_getR (k := 3) xcl12 h0 rfl xq_124 rfl (xt_12_3 h0).1 dX12_tell_1 (Eq.refl 4) ?_
  refine xg_aload_n dX12_tell_4 (Eq.refl 5) rfl ?_
  refine xg_iload_n dX12_tell_5 (Eq.refl 6) rfl ?_
  refine xg_callV_I (kc := 0) (ks := 0) (st := [.ref (xr x0 3)]) (mX12_deliverer hl x0 h0 x1 h1 M hM) bX12_deliverer xcl12 h0 rfl xq_493 rfl (by decide) rfl (Nat.le_of_ble_eq_true rfl) dX12_tell_6 (Eq.refl 9) rfl (by decide) (by decide) ?_
  intro z1 M2 hz1 hM2
  refine xg_dup2 dX12_tell_9 (Eq.refl 10) rfl rfl ?_
  refine xg_iald (xt_12_3 h0).2 dX12_tell_10 (Eq.refl 11) ?_
  refine xg_iconst dX12_tell_11 (Eq.refl 12) ?_
  refine xg_iadd dX12_tell_12 (Eq.refl 13) ?_
  refine xg_iast (xt_12_3 h0).2 dX12_tell_13 (Eq.refl 14) hM2 (w32_r _) ?_
  intro M3 hM3
  refine xg_aload_n dX12_tell_14 (Eq.refl 15) rfl ?_
  refine xg_getR (k := 3) xcl12 h0 rfl xq_124 rfl (xt_12_3 h0).1 dX12_tell_15 (Eq.refl 18) ?_
  refine xg_aload_n dX12_tell_18 (Eq.refl 19) rfl ?_
  refine xg_iload_n dX12_tell_19 (Eq.refl 20) rfl ?_
  refine xg_callV_I (kc := 0) (ks := 0) (st := [.ref (xr x0 3)]) (mX12_receiver hl x0 h0 x1 h1 M3 hM3) bX12_receiver xcl12 h0 rfl xq_497 rfl (by decide) rfl (Nat.le_of_ble_eq_true rfl) dX12_tell_20 (Eq.refl 23) rfl (by decide) (by decide) ?_
  intro z4 M5 hz4 hM5
  refine xg_dup2 dX12_tell_23 (Eq.refl 24) rfl rfl ?_
  refine xg_iald (xt_12_3 h0).2 dX12_tell_24 (Eq.refl 25) ?_
  refine xg_iconst dX12_tell_25 (Eq.refl 26) ?_
  refine xg_iadd dX12_tell_26 (Eq.refl 27) ?_
  refine xg_iast (xt_12_3 h0).2 dX12_tell_27 (Eq.refl 28) hM5 (w32_r _) ?_
  intro M6 hM6
  exact xg_vret rfl dX12_tell_28 rfl hM6
abbrev uX12_matched : xU := (RX12, cX12_matched, 4, (some .int), [], "matched")
theorem bX12_matched : xYV yX12_matched cX12_matched 4 (some .int) 2 := ⟨xq_486, xq_487, xq_5, xq_488, ⟨by decide +kernel, by decide +kernel, by decide +kernel⟩, by decide⟩
theorem gX12_matched_298 {l : Launch} {G : xG} (hl : l.stackTraces = false) (x0 : Nat) (h0 : xOb 12 x0) (x1 : Int) (h1 : R32 x1) (x2 : Int) (h2 : R32 x2) (x3 : Int) (h3 : R32 x3) (s0 : Int) (hs0 : R64 s0) (s1 : Int) (hs1 : R32 s1) (s2 : Nat) (hs2 : xAn 1 1550 s2) (M : xM) (hM : xcan M) : Gv l G uX12_matched 3 0 0 0 298 [some (.ref x0), some (iv x1), some (iv x2), some (iv x3)] [jv s0, iv s1, .ref s2] M (fX12_matched_298 x0 x1 x2 x3 s0 s1 s2 M) := by
  unfold fX12_matched_298
  refine xg_last hs2 dX12_matched_298 (Eq.refl 299) hM hs0 ?_
  intro M1 hM1
  refine xg_aload_n dX12_matched_299 (Eq.refl 300) rfl ?_
  refine xg_getR (k := 0) xcl12 h0 rfl xq_122 rfl (xt_12_0 h0).1 dX12_matched_300 (Eq.refl 303) ?_
  refine xg_sipush dX12_matched_303 (Eq.refl 306) (by decide +kernel) ?_
  refine xg_iload_n dX12_matched_306 (Eq.refl 307) rfl ?_
  refine xg_iadd dX12_matched_307 (Eq.refl 308) ?_
  refine xg_lconst (z := 0) dX12_matched_308 (Eq.refl 309) rfl ?_
  refine xg_last (xt_12_0 h0).2 dX12_matched_309 (Eq.refl 310) hM1 (by decide) ?_
  intro M2 hM2
  refine xg_aload_n dX12_matched_310 (Eq.refl 311) rfl ?_
  refine xg_getR (k := 0) xcl12 h0 rfl xq_122 rfl (xt_12_0 h0).1 dX12_matched_311 (Eq.refl 314) ?_
  refine xg_sipush dX12_matched_314 (Eq.refl 317) (by decide +kernel) ?_
  refine xg_iload_n dX12_matched_317 (Eq.refl 318) rfl ?_
  refine xg_iadd dX12_matched_318 (Eq.refl 319) ?_
  refine xg_lconst (z := 0) dX12_matched_319 (Eq.refl 320) rfl ?_
  refine xg_last (xt_12_0 h0).2 dX12_matched_320 (Eq.refl 321) hM2 (by decide) ?_
  intro M3 hM3
  refine xg_aload_n dX12_matched_321 (Eq.refl 322) rfl ?_
  refine xg_getR (k := 0) xcl12 h0 rfl xq_122 rfl (xt_12_0 h0).1 dX12_matched_322 (Eq.refl 325) ?_
  refine xg_sipush dX12_matched_325 (Eq.refl 328) (by decide +kernel) ?_
  refine xg_iload_n dX12_matched_328 (Eq.refl 329) rfl ?_
  refine xg_iadd dX12_matched_329 (Eq.refl 330) ?_
  refine xg_lconst (z := 1) dX12_matched_330 (Eq.refl 331) rfl ?_
  refine xg_last (xt_12_0 h0).2 dX12_matched_331 (Eq.refl 332) hM3 (by decide) ?_
  intro M4 hM4
  refine xg_aload_n dX12_matched_332 (Eq.refl 333) rfl ?_
  refine xg_getR (k := 0) xcl12 h0 rfl xq_122 rfl (xt_12_0 h0).1 dX12_matched_333 (Eq.refl 336) ?_
  refine xg_sipush dX12_matched_336 (Eq.refl 339) (by decide +kernel) ?_
  refine xg_iload_n dX12_matched_339 (Eq.refl 340) rfl ?_
  refine xg_iadd dX12_matched_340 (Eq.refl 341) ?_
  refine xg_lconst (z := 1) dX12_matched_341 (Eq.refl 342) rfl ?_
  refine xg_last (xt_12_0 h0).2 dX12_matched_342 (Eq.refl 343) hM4 (by decide) ?_
  intro M5 hM5
  refine xg_aload_n dX12_matched_343 (Eq.refl 344) rfl ?_
  refine xg_getR (k := 0) xcl12 h0 rfl xq_122 rfl (xt_12_0 h0).1 dX12_matched_344 (Eq.refl 347) ?_
  refine xg_sipush dX12_matched_347 (Eq.refl 350) (by decide +kernel) ?_
  refine xg_iload_n dX12_matched_350 (Eq.refl 351) rfl ?_
  refine xg_iadd dX12_matched_351 (Eq.refl 352) ?_
  refine xg_iload_n dX12_matched_352 (Eq.refl 353) rfl ?_
  refine xg_i2l dX12_matched_353 (Eq.refl 354) h3 ?_
  refine xg_last (xt_12_0 h0).2 dX12_matched_354 (Eq.refl 355) hM5 (R32.j h3) ?_
  intro M6 hM6
  refine xg_aload_n dX12_matched_355 (Eq.refl 356) rfl ?_
  refine xg_getR (k := 0) xcl12 h0 rfl xq_122 rfl (xt_12_0 h0).1 dX12_matched_356 (Eq.refl 359) ?_
  refine xg_sipush dX12_matched_359 (Eq.refl 362) (by decide +kernel) ?_
  refine xg_iload_n dX12_matched_362 (Eq.refl 363) rfl ?_
  refine xg_iadd dX12_matched_363 (Eq.refl 364) ?_
  refine xg_iload_n dX12_matched_364 (Eq.refl 365) rfl ?_
  refine xg_i2l dX12_matched_365 (Eq.refl 366) h3 ?_
  refine xg_last (xt_12_0 h0).2 dX12_matched_366 (Eq.refl 367) hM6 (R32.j h3) ?_
  intro M7 hM7
  refine xg_aload_n dX12_matched_367 (Eq.refl 368) rfl ?_
  refine xg_getR (k := 0) xcl12 h0 rfl xq_122 rfl (xt_12_0 h0).1 dX12_matched_368 (Eq.refl 371) ?_
  refine xg_sipush dX12_matched_371 (Eq.refl 374) (by decide +kernel) ?_
  refine xg_dup2 dX12_matched_374 (Eq.refl 375) rfl rfl ?_
  refine xg_laldk (k := 1543) (xt_12_0 h0).2 dX12_matched_375 (Eq.refl 376) rfl (by decide) ?_
  refine xg_lconst (z := 1) dX12_matched_376 (Eq.refl 377) rfl ?_
  refine xg_ladd dX12_matched_377 (Eq.refl 378) ?_
  refine xg_lastk (k := 1543) (xt_12_0 h0).2 dX12_matched_378 (Eq.refl 379) rfl (by decide) hM7 (w64_r _) ?_
  intro M8 hM8
  refine xg_aload_n dX12_matched_379 (Eq.refl 380) rfl ?_
  refine xg_iload_n dX12_matched_380 (Eq.refl 381) rfl ?_
  refine xg_callV_N (kc := 0) (ks := 0) (st := []) (mX12_tell hl x0 h0 x3 h3 M8 hM8) bX12_tell xcl12 h0 rfl xq_489 rfl (by decide) rfl (by decide) dX12_matched_381 (Eq.refl 384) rfl (by decide) (by decide) ?_
  intro z9 M10 hz9 hM10
  refine xg_iload_n dX12_matched_384 (Eq.refl 385) rfl ?_
  exact xg_iret rfl dX12_matched_385 rfl hM10 h3
theorem gX12_matched_247 {l : Launch} {G : xG} (hl : l.stackTraces = false) (x0 : Nat) (h0 : xOb 12 x0) (x1 : Int) (h1 : R32 x1) (x2 : Int) (h2 : R32 x2) (x3 : Int) (h3 : R32 x3) (s0 : Int) (hs0 : R32 s0) (s1 : Nat) (hs1 : xAn 1 1550 s1) (M : xM) (hM : xcan M) : Gv l G uX12_matched 3 0 0 0 247 [some (.ref x0), some (iv x1), some (iv x2), some (iv x3)] [iv s0, .ref s1] M (fX12_matched_247 x0 x1 x2 x3 s0 s1 M) := by
  unfold fX12_matched_247
  refine xg_lconst (z := 0) dX12_matched_247 (Eq.refl 248) rfl ?_
  refine xg_goto (tgt := 298) dX12_matched_248 (by decide) ?_
  exact xg_jump (gX12_matched_298 hl x0 h0 x1 h1 x2 h2 x3 h3 0 (by decide) s0 hs0 s1 hs1 M hM) (xsb_s (xsb_s (xsb_s (xsb_s xsb_0)))) (by decide) (by decide)
theorem gX12_matched_207 {l : Launch} {G : xG} (hl : l.stackTraces = false) (x0 : Nat) (h0 : xOb 12 x0) (x1 : Int) (h1 : R32 x1) (x2 : Int) (h2 : R32 x2) (x3 : Int) (h3 : R32 x3) (s0 : Int) (hs0 : R64 s0) (s1 : Int) (hs1 : R32 s1) (s2 : Nat) (hs2 : xAn 1 1550 s2) (M : xM) (hM : xcan M) : Gv l G uX12_matched 3 0 0 0 207 [some (.ref x0), some (iv x1), some (iv x2), some (iv x3)] [jv s0, iv s1, .ref s2] M (fX12_matched_207 x0 x1 x2 x3 s0 s1 s2 M) := by
  unfold fX12_matched_207
  refine xg_last hs2 dX12_matched_207 (Eq.refl 208) hM hs0 ?_
  intro M1 hM1
  refine xg_aload_n dX12_matched_208 (Eq.refl 209) rfl ?_
  refine xg_getR (k := 0) xcl12 h0 rfl xq_122 rfl (xt_12_0 h0).1 dX12_matched_209 (Eq.refl 212) ?_
  refine xg_sipush dX12_matched_212 (Eq.refl 215) (by decide +kernel) ?_
  refine xg_iload_n dX12_matched_215 (Eq.refl 216) rfl ?_
  refine xg_iadd dX12_matched_216 (Eq.refl 217) ?_
  refine xg_aload_n dX12_matched_217 (Eq.refl 218) rfl ?_
  refine xg_getR (k := 0) xcl12 h0 rfl xq_122 rfl (xt_12_0 h0).1 dX12_matched_218 (Eq.refl 221) ?_
  refine xg_sipush dX12_matched_221 (Eq.refl 224) (by decide +kernel) ?_
  refine xg_iload_n dX12_matched_224 (Eq.refl 225) rfl ?_
  refine xg_iadd dX12_matched_225 (Eq.refl 226) ?_
  refine xg_lald (xt_12_0 h0).2 dX12_matched_226 (Eq.refl 227) ?_
  refine xg_lconst (z := 0) dX12_matched_227 (Eq.refl 228) rfl ?_
  refine xg_lif_eq (tgt := 247) dX12_matched_228 (Eq.refl 229) dX12_matched_229 (Eq.refl 232) (by decide) (hM1.aj (xt_12_0 h0).2) (by decide) ?_ ?_
  · exact xg_jump (gX12_matched_247 hl x0 h0 x1 h1 x2 h2 x3 h3 (w32 (830 + x3)) (w32_r _) (xr x0 0) (xt_12_0 h0).2 M1 hM1) (xsb_s (xsb_s (xsb_s (xsb_s xsb_0)))) (by decide) (by decide)
  · refine xg_aload_n dX12_matched_232 (Eq.refl 233) rfl ?_
    refine xg_getR (k := 0) xcl12 h0 rfl xq_122 rfl (xt_12_0 h0).1 dX12_matched_233 (Eq.refl 236) ?_
    refine xg_sipush dX12_matched_236 (Eq.refl 239) (by decide +kernel) ?_
    refine xg_iload_n dX12_matched_239 (Eq.refl 240) rfl ?_
    refine xg_iadd dX12_matched_240 (Eq.refl 241) ?_
    refine xg_lald (xt_12_0 h0).2 dX12_matched_241 (Eq.refl 242) ?_
    refine xg_lconst (z := 0) dX12_matched_242 (Eq.refl 243) rfl ?_
    refine xg_lif_ne (tgt := 251) dX12_matched_243 (Eq.refl 244) dX12_matched_244 (Eq.refl 247) (by decide) (hM1.aj (xt_12_0 h0).2) (by decide) ?_ ?_
    · exact xg_jump (gX12_matched_247 hl x0 h0 x1 h1 x2 h2 x3 h3 (w32 (830 + x3)) (w32_r _) (xr x0 0) (xt_12_0 h0).2 M1 hM1) (xsb_s (xsb_s (xsb_s (xsb_s xsb_0)))) (by decide) (by decide)
    · refine xg_aload_n dX12_matched_251 (Eq.refl 252) rfl ?_
      refine xg_getR (k := 0) xcl12 h0 rfl xq_122 rfl (xt_12_0 h0).1 dX12_matched_252 (Eq.refl 255) ?_
      refine xg_sipush dX12_matched_255 (Eq.refl 258) (by decide +kernel) ?_
      refine xg_iload_n dX12_matched_258 (Eq.refl 259) rfl ?_
      refine xg_iadd dX12_matched_259 (Eq.refl 260) ?_
      refine xg_lald (xt_12_0 h0).2 dX12_matched_260 (Eq.refl 261) ?_
      refine xg_aload_n dX12_matched_261 (Eq.refl 262) rfl ?_
      refine xg_getR (k := 0) xcl12 h0 rfl xq_122 rfl (xt_12_0 h0).1 dX12_matched_262 (Eq.refl 265) ?_
      refine xg_sipush dX12_matched_265 (Eq.refl 268) (by decide +kernel) ?_
      refine xg_iload_n dX12_matched_268 (Eq.refl 269) rfl ?_
      refine xg_iadd dX12_matched_269 (Eq.refl 270) ?_
      refine xg_lald (xt_12_0 h0).2 dX12_matched_270 (Eq.refl 271) ?_
      refine xg_lif_le (tgt := 288) dX12_matched_271 (Eq.refl 272) dX12_matched_272 (Eq.refl 275) (by decide) (hM1.aj (xt_12_0 h0).2) (hM1.aj (xt_12_0 h0).2) ?_ ?_
      · refine xg_aload_n dX12_matched_288 (Eq.refl 289) rfl ?_
        refine xg_getR (k := 0) xcl12 h0 rfl xq_122 rfl (xt_12_0 h0).1 dX12_matched_289 (Eq.refl 292) ?_
        refine xg_sipush dX12_matched_292 (Eq.refl 295) (by decide +kernel) ?_
        refine xg_iload_n dX12_matched_295 (Eq.refl 296) rfl ?_
        refine xg_iadd dX12_matched_296 (Eq.refl 297) ?_
        refine xg_lald (xt_12_0 h0).2 dX12_matched_297 (Eq.refl 298) ?_
        exact xg_jump (gX12_matched_298 hl x0 h0 x1 h1 x2 h2 x3 h3 (M1 (xr x0 0) (w32 (530 + x2)).toNat) (hM1.aj (xt_12_0 h0).2) (w32 (830 + x3)) (w32_r _) (xr x0 0) (xt_12_0 h0).2 M1 hM1) (xsb_s (xsb_s (xsb_s (xsb_s xsb_0)))) (by decide) (by decide)
      · refine xg_aload_n dX12_matched_275 (Eq.refl 276) rfl ?_
        refine xg_getR (k := 0) xcl12 h0 rfl xq_122 rfl (xt_12_0 h0).1 dX12_matched_276 (Eq.refl 279) ?_
        refine xg_sipush dX12_matched_279 (Eq.refl 282) (by decide +kernel) ?_
        refine xg_iload_n dX12_matched_282 (Eq.refl 283) rfl ?_
        refine xg_iadd dX12_matched_283 (Eq.refl 284) ?_
        refine xg_lald (xt_12_0 h0).2 dX12_matched_284 (Eq.refl 285) ?_
        refine xg_goto (tgt := 298) dX12_matched_285 (by decide) ?_
        exact xg_jump (gX12_matched_298 hl x0 h0 x1 h1 x2 h2 x3 h3 (M1 (xr x0 0) (w32 (530 + x1)).toNat) (hM1.aj (xt_12_0 h0).2) (w32 (830 + x3)) (w32_r _) (xr x0 0) (xt_12_0 h0).2 M1 hM1) (xsb_s (xsb_s (xsb_s (xsb_s xsb_0)))) (by decide) (by decide)
theorem gX12_matched_150 {l : Launch} {G : xG} (hl : l.stackTraces = false) (x0 : Nat) (h0 : xOb 12 x0) (x1 : Int) (h1 : R32 x1) (x2 : Int) (h2 : R32 x2) (x3 : Int) (h3 : R32 x3) (s0 : Int) (hs0 : R64 s0) (s1 : Int) (hs1 : R32 s1) (s2 : Nat) (hs2 : xAn 1 1550 s2) (M : xM) (hM : xcan M) : Gv l G uX12_matched 3 0 0 0 150 [some (.ref x0), some (iv x1), some (iv x2), some (iv x3)] [jv s0, iv s1, .ref s2] M (fX12_matched_150 x0 x1 x2 x3 s0 s1 s2 M) := by
  unfold fX12_matched_150
  refine xg_last hs2 dX12_matched_150 (Eq.refl 151) hM hs0 ?_
  intro M1 hM1
  refine xg_aload_n dX12_matched_151 (Eq.refl 152) rfl ?_
  refine xg_getR (k := 0) xcl12 h0 rfl xq_122 rfl (xt_12_0 h0).1 dX12_matched_152 (Eq.refl 155) ?_
  refine xg_sipush dX12_matched_155 (Eq.refl 158) (by decide +kernel) ?_
  refine xg_iload_n dX12_matched_158 (Eq.refl 159) rfl ?_
  refine xg_iadd dX12_matched_159 (Eq.refl 160) ?_
  refine xg_aload_n dX12_matched_160 (Eq.refl 161) rfl ?_
  refine xg_getR (k := 0) xcl12 h0 rfl xq_122 rfl (xt_12_0 h0).1 dX12_matched_161 (Eq.refl 164) ?_
  refine xg_sipush dX12_matched_164 (Eq.refl 167) (by decide +kernel) ?_
  refine xg_iload_n dX12_matched_167 (Eq.refl 168) rfl ?_
  refine xg_iadd dX12_matched_168 (Eq.refl 169) ?_
  refine xg_lald (xt_12_0 h0).2 dX12_matched_169 (Eq.refl 170) ?_
  refine xg_aload_n dX12_matched_170 (Eq.refl 171) rfl ?_
  refine xg_getR (k := 0) xcl12 h0 rfl xq_122 rfl (xt_12_0 h0).1 dX12_matched_171 (Eq.refl 174) ?_
  refine xg_sipush dX12_matched_174 (Eq.refl 177) (by decide +kernel) ?_
  refine xg_iload_n dX12_matched_177 (Eq.refl 178) rfl ?_
  refine xg_iadd dX12_matched_178 (Eq.refl 179) ?_
  refine xg_lald (xt_12_0 h0).2 dX12_matched_179 (Eq.refl 180) ?_
  refine xg_lif_le (tgt := 197) dX12_matched_180 (Eq.refl 181) dX12_matched_181 (Eq.refl 184) (by decide) (hM1.aj (xt_12_0 h0).2) (hM1.aj (xt_12_0 h0).2) ?_ ?_
  · refine xg_aload_n dX12_matched_197 (Eq.refl 198) rfl ?_
    refine xg_getR (k := 0) xcl12 h0 rfl xq_122 rfl (xt_12_0 h0).1 dX12_matched_198 (Eq.refl 201) ?_
    refine xg_sipush dX12_matched_201 (Eq.refl 204) (by decide +kernel) ?_
    refine xg_iload_n dX12_matched_204 (Eq.refl 205) rfl ?_
    refine xg_iadd dX12_matched_205 (Eq.refl 206) ?_
    refine xg_lald (xt_12_0 h0).2 dX12_matched_206 (Eq.refl 207) ?_
    exact xg_jump (gX12_matched_207 hl x0 h0 x1 h1 x2 h2 x3 h3 (M1 (xr x0 0) (w32 (490 + x2)).toNat) (hM1.aj (xt_12_0 h0).2) (w32 (810 + x3)) (w32_r _) (xr x0 0) (xt_12_0 h0).2 M1 hM1) (xsb_s (xsb_s (xsb_s (xsb_s xsb_0)))) (by decide) (by decide)
  · refine xg_aload_n dX12_matched_184 (Eq.refl 185) rfl ?_
    refine xg_getR (k := 0) xcl12 h0 rfl xq_122 rfl (xt_12_0 h0).1 dX12_matched_185 (Eq.refl 188) ?_
    refine xg_sipush dX12_matched_188 (Eq.refl 191) (by decide +kernel) ?_
    refine xg_iload_n dX12_matched_191 (Eq.refl 192) rfl ?_
    refine xg_iadd dX12_matched_192 (Eq.refl 193) ?_
    refine xg_lald (xt_12_0 h0).2 dX12_matched_193 (Eq.refl 194) ?_
    refine xg_goto (tgt := 207) dX12_matched_194 (by decide) ?_
    exact xg_jump (gX12_matched_207 hl x0 h0 x1 h1 x2 h2 x3 h3 (M1 (xr x0 0) (w32 (490 + x1)).toNat) (hM1.aj (xt_12_0 h0).2) (w32 (810 + x3)) (w32_r _) (xr x0 0) (xt_12_0 h0).2 M1 hM1) (xsb_s (xsb_s (xsb_s (xsb_s xsb_0)))) (by decide) (by decide)
theorem gX12_matched_73 {l : Launch} {G : xG} (hl : l.stackTraces = false) (x0 : Nat) (h0 : xOb 12 x0) (x1 : Int) (h1 : R32 x1) (x2 : Int) (h2 : R32 x2) (x3 : Int) (h3 : R32 x3) (s0 : Int) (hs0 : R64 s0) (s1 : Int) (hs1 : R32 s1) (s2 : Nat) (hs2 : xAn 1 1550 s2) (M : xM) (hM : xcan M) : Gv l G uX12_matched 3 0 0 0 73 [some (.ref x0), some (iv x1), some (iv x2), some (iv x3)] [jv s0, iv s1, .ref s2] M (fX12_matched_73 x0 x1 x2 x3 s0 s1 s2 M) := by
  unfold fX12_matched_73
  refine xg_last hs2 dX12_matched_73 (Eq.refl 74) hM hs0 ?_
  intro M1 hM1
  refine xg_aload_n dX12_matched_74 (Eq.refl 75) rfl ?_
  refine xg_getR (k := 0) xcl12 h0 rfl xq_122 rfl (xt_12_0 h0).1 dX12_matched_75 (Eq.refl 78) ?_
  refine xg_sipush dX12_matched_78 (Eq.refl 81) (by decide +kernel) ?_
  refine xg_iload_n dX12_matched_81 (Eq.refl 82) rfl ?_
  refine xg_iadd dX12_matched_82 (Eq.refl 83) ?_
  refine xg_aload_n dX12_matched_83 (Eq.refl 84) rfl ?_
  refine xg_getR (k := 0) xcl12 h0 rfl xq_122 rfl (xt_12_0 h0).1 dX12_matched_84 (Eq.refl 87) ?_
  refine xg_sipush dX12_matched_87 (Eq.refl 90) (by decide +kernel) ?_
  refine xg_iload_n dX12_matched_90 (Eq.refl 91) rfl ?_
  refine xg_iadd dX12_matched_91 (Eq.refl 92) ?_
  refine xg_lald (xt_12_0 h0).2 dX12_matched_92 (Eq.refl 93) ?_
  refine xg_last (xt_12_0 h0).2 dX12_matched_93 (Eq.refl 94) hM1 (hM1.aj (xt_12_0 h0).2) ?_
  intro M2 hM2
  refine xg_aload_n dX12_matched_94 (Eq.refl 95) rfl ?_
  refine xg_getR (k := 0) xcl12 h0 rfl xq_122 rfl (xt_12_0 h0).1 dX12_matched_95 (Eq.refl 98) ?_
  refine xg_sipush dX12_matched_98 (Eq.refl 101) (by decide +kernel) ?_
  refine xg_iload_n dX12_matched_101 (Eq.refl 102) rfl ?_
  refine xg_iadd dX12_matched_102 (Eq.refl 103) ?_
  refine xg_aload_n dX12_matched_103 (Eq.refl 104) rfl ?_
  refine xg_getR (k := 0) xcl12 h0 rfl xq_122 rfl (xt_12_0 h0).1 dX12_matched_104 (Eq.refl 107) ?_
  refine xg_sipush dX12_matched_107 (Eq.refl 110) (by decide +kernel) ?_
  refine xg_iload_n dX12_matched_110 (Eq.refl 111) rfl ?_
  refine xg_iadd dX12_matched_111 (Eq.refl 112) ?_
  refine xg_lald (xt_12_0 h0).2 dX12_matched_112 (Eq.refl 113) ?_
  refine xg_aload_n dX12_matched_113 (Eq.refl 114) rfl ?_
  refine xg_getR (k := 0) xcl12 h0 rfl xq_122 rfl (xt_12_0 h0).1 dX12_matched_114 (Eq.refl 117) ?_
  refine xg_sipush dX12_matched_117 (Eq.refl 120) (by decide +kernel) ?_
  refine xg_iload_n dX12_matched_120 (Eq.refl 121) rfl ?_
  refine xg_iadd dX12_matched_121 (Eq.refl 122) ?_
  refine xg_lald (xt_12_0 h0).2 dX12_matched_122 (Eq.refl 123) ?_
  refine xg_lif_ge (tgt := 140) dX12_matched_123 (Eq.refl 124) dX12_matched_124 (Eq.refl 127) (by decide) (hM2.aj (xt_12_0 h0).2) (hM2.aj (xt_12_0 h0).2) ?_ ?_
  · refine xg_aload_n dX12_matched_140 (Eq.refl 141) rfl ?_
    refine xg_getR (k := 0) xcl12 h0 rfl xq_122 rfl (xt_12_0 h0).1 dX12_matched_141 (Eq.refl 144) ?_
    refine xg_sipush dX12_matched_144 (Eq.refl 147) (by decide +kernel) ?_
    refine xg_iload_n dX12_matched_147 (Eq.refl 148) rfl ?_
    refine xg_iadd dX12_matched_148 (Eq.refl 149) ?_
    refine xg_lald (xt_12_0 h0).2 dX12_matched_149 (Eq.refl 150) ?_
    exact xg_jump (gX12_matched_150 hl x0 h0 x1 h1 x2 h2 x3 h3 (M2 (xr x0 0) (w32 (410 + x2)).toNat) (hM2.aj (xt_12_0 h0).2) (w32 (790 + x3)) (w32_r _) (xr x0 0) (xt_12_0 h0).2 M2 hM2) (xsb_s (xsb_s (xsb_s (xsb_s xsb_0)))) (by decide) (by decide)
  · refine xg_aload_n dX12_matched_127 (Eq.refl 128) rfl ?_
    refine xg_getR (k := 0) xcl12 h0 rfl xq_122 rfl (xt_12_0 h0).1 dX12_matched_128 (Eq.refl 131) ?_
    refine xg_sipush dX12_matched_131 (Eq.refl 134) (by decide +kernel) ?_
    refine xg_iload_n dX12_matched_134 (Eq.refl 135) rfl ?_
    refine xg_iadd dX12_matched_135 (Eq.refl 136) ?_
    refine xg_lald (xt_12_0 h0).2 dX12_matched_136 (Eq.refl 137) ?_
    refine xg_goto (tgt := 150) dX12_matched_137 (by decide) ?_
    exact xg_jump (gX12_matched_150 hl x0 h0 x1 h1 x2 h2 x3 h3 (M2 (xr x0 0) (w32 (410 + x1)).toNat) (hM2.aj (xt_12_0 h0).2) (w32 (790 + x3)) (w32_r _) (xr x0 0) (xt_12_0 h0).2 M2 hM2) (xsb_s (xsb_s (xsb_s (xsb_s xsb_0)))) (by decide) (by decide)
theorem gX12_matched_41 {l : Launch} {G : xG} (hl : l.stackTraces = false) (x0 : Nat) (h0 : xOb 12 x0) (x1 : Int) (h1 : R32 x1) (x2 : Int) (h2 : R32 x2) (x3 : Int) (h3 : R32 x3) (s0 : Int) (hs0 : R64 s0) (s1 : Int) (hs1 : R32 s1) (s2 : Nat) (hs2 : xAn 1 1550 s2) (M : xM) (hM : xcan M) : Gv l G uX12_matched 3 0 0 0 41 [some (.ref x0), some (iv x1), some (iv x2), some (iv x3)] [jv s0, iv s1, .ref s2] M (fX12_matched_41 x0 x1 x2 x3 s0 s1 s2 M) := by
  unfold fX12_matched_41
  refine xg_last hs2 dX12_matched_41 (Eq.refl 42) hM hs0 ?_
  intro M1 hM1
  refine xg_aload_n dX12_matched_42 (Eq.refl 43) rfl ?_
  refine xg_getR (k := 0) xcl12 h0 rfl xq_122 rfl (xt_12_0 h0).1 dX12_matched_43 (Eq.refl 46) ?_
  refine xg_sipush dX12_matched_46 (Eq.refl 49) (by decide +kernel) ?_
  refine xg_iload_n dX12_matched_49 (Eq.refl 50) rfl ?_
  refine xg_iadd dX12_matched_50 (Eq.refl 51) ?_
  refine xg_aload_n dX12_matched_51 (Eq.refl 52) rfl ?_
  refine xg_getR (k := 0) xcl12 h0 rfl xq_122 rfl (xt_12_0 h0).1 dX12_matched_52 (Eq.refl 55) ?_
  refine xg_sipush dX12_matched_55 (Eq.refl 58) (by decide +kernel) ?_
  refine xg_iload_n dX12_matched_58 (Eq.refl 59) rfl ?_
  refine xg_iadd dX12_matched_59 (Eq.refl 60) ?_
  refine xg_lald (xt_12_0 h0).2 dX12_matched_60 (Eq.refl 61) ?_
  refine xg_lconst (z := 1) dX12_matched_61 (Eq.refl 62) rfl ?_
  refine xg_lif_ne (tgt := 71) dX12_matched_62 (Eq.refl 63) dX12_matched_63 (Eq.refl 66) (by decide) (hM1.aj (xt_12_0 h0).2) (by decide) ?_ ?_
  · refine xg_iload_n dX12_matched_66 (Eq.refl 67) rfl ?_
    refine xg_i2l dX12_matched_67 (Eq.refl 68) h2 ?_
    refine xg_goto (tgt := 73) dX12_matched_68 (by decide) ?_
    exact xg_jump (gX12_matched_73 hl x0 h0 x1 h1 x2 h2 x3 h3 x2 (R32.j h2) (w32 (750 + x3)) (w32_r _) (xr x0 0) (xt_12_0 h0).2 M1 hM1) (xsb_s (xsb_s (xsb_s (xsb_s xsb_0)))) (by decide) (by decide)
  · refine xg_iload_n dX12_matched_71 (Eq.refl 72) rfl ?_
    refine xg_i2l dX12_matched_72 (Eq.refl 73) h1 ?_
    exact xg_jump (gX12_matched_73 hl x0 h0 x1 h1 x2 h2 x3 h3 x1 (R32.j h1) (w32 (750 + x3)) (w32_r _) (xr x0 0) (xt_12_0 h0).2 M1 hM1) (xsb_s (xsb_s (xsb_s (xsb_s xsb_0)))) (by decide) (by decide)
theorem mX12_matched {l : Launch} {G : xG} (hl : l.stackTraces = false) (x0 : Nat) (h0 : xOb 12 x0) (x1 : Int) (h1 : R32 x1) (x2 : Int) (h2 : R32 x2) (M : xM) (hM : xcan M) : Cm l G yX12_matched cX12_matched 4 (some .int) 3 0 0 0 [.ref x0, iv x1, iv x2] M (fX12_matched x0 x1 x2 M) := by
  refine xcm_of (u := uX12_matched) (ls := [some (.ref x0), some (iv x1), some (iv x2), none]) 1 hl rfl (by decide +kernel) (Nat.le_of_ble_eq_true rfl) rfl ?_
  unfold fX12_matched
  refine xg_aload_n dX12_matched_0 (Eq.refl 1) rfl ?_
  refine xg_getR (k := 0) xcl12 h0 rfl xq_122 rfl (xt_12_0 h0).1 dX12_matched_1 (Eq.refl 4) ?_
  refine xg_sipush dX12_matched_4 (Eq.refl 7) (by decide +kernel) ?_
  refine xg_laldk (k := 1543) (xt_12_0 h0).2 dX12_matched_7 (Eq.refl 8) rfl (by decide) ?_
  refine xg_l2i dX12_matched_8 (Eq.refl 9) ?_
  refine xg_istore_nL (P := R32) (ls2 := fun y1 => [some (.ref x0), some (iv x1), some (iv x2), some (iv y1)]) dX12_matched_9 (Eq.refl 10) (by decide) (w32_r _) (fun _ => rfl) ?_
  intro y1 hy1
  refine xg_aload_n dX12_matched_10 (Eq.refl 11) rfl ?_
  refine xg_getR (k := 0) xcl12 h0 rfl xq_122 rfl (xt_12_0 h0).1 dX12_matched_11 (Eq.refl 14) ?_
  refine xg_sipush dX12_matched_14 (Eq.refl 17) (by decide +kernel) ?_
  refine xg_iload_n dX12_matched_17 (Eq.refl 18) rfl ?_
  refine xg_iadd dX12_matched_18 (Eq.refl 19) ?_
  refine xg_aload_n dX12_matched_19 (Eq.refl 20) rfl ?_
  refine xg_getR (k := 0) xcl12 h0 rfl xq_122 rfl (xt_12_0 h0).1 dX12_matched_20 (Eq.refl 23) ?_
  refine xg_sipush dX12_matched_23 (Eq.refl 26) (by decide +kernel) ?_
  refine xg_iload_n dX12_matched_26 (Eq.refl 27) rfl ?_
  refine xg_iadd dX12_matched_27 (Eq.refl 28) ?_
  refine xg_lald (xt_12_0 h0).2 dX12_matched_28 (Eq.refl 29) ?_
  refine xg_lconst (z := 1) dX12_matched_29 (Eq.refl 30) rfl ?_
  refine xg_lif_ne (tgt := 39) dX12_matched_30 (Eq.refl 31) dX12_matched_31 (Eq.refl 34) (by decide) (hM.aj (xt_12_0 h0).2) (by decide) ?_ ?_
  · refine xg_iload_n dX12_matched_34 (Eq.refl 35) rfl ?_
    refine xg_i2l dX12_matched_35 (Eq.refl 36) h1 ?_
    refine xg_goto (tgt := 41) dX12_matched_36 (by decide) ?_
    exact xg_jump (gX12_matched_41 hl x0 h0 x1 h1 x2 h2 y1 hy1 x1 (R32.j h1) (w32 (730 + y1)) (w32_r _) (xr x0 0) (xt_12_0 h0).2 M hM) (xsb_s (xsb_s (xsb_s (xsb_s xsb_0)))) (by decide) (by decide)
  · refine xg_iload_n dX12_matched_39 (Eq.refl 40) rfl ?_
    refine xg_i2l dX12_matched_40 (Eq.refl 41) h2 ?_
    exact xg_jump (gX12_matched_41 hl x0 h0 x1 h1 x2 h2 y1 hy1 x2 (R32.j h2) (w32 (730 + y1)) (w32_r _) (xr x0 0) (xt_12_0 h0).2 M hM) (xsb_s (xsb_s (xsb_s (xsb_s xsb_0)))) (by decide) (by decide)
abbrev uX12_paper : xU := (RX12, cX12_paper, 2, (some .int), [], "paper")
theorem bX12_paper : xYV yX12_paper cX12_paper 2 (some .int) 1 := ⟨xq_843, xq_844, xq_5, xq_845, ⟨by decide +kernel, by decide +kernel, by decide +kernel⟩, by decide⟩
theorem mX12_paper {l : Launch} {G : xG} (hl : l.stackTraces = false) (x0 : Nat) (h0 : xOb 12 x0) (x1 : Int) (h1 : R32 x1) (M : xM) (hM : xcan M) : Cm l G yX12_paper cX12_paper 2 (some .int) 1 0 0 0 [.ref x0, iv x1] M (fX12_paper x0 x1 M) := by
  refine xcm_of (u := uX12_paper) (ls := [some (.ref x0), some (iv x1)]) 0 hl rfl (by decide +kernel) (Nat.le_of_ble_eq_true rfl) rfl ?_
  unfold fX12_paper
  refine xg_aload_n dX12_paper_0 (Eq.refl 1) rfl ?_
  refine xg_getR (k := 0) xcl12 h0 rfl xq_122 rfl (xt_12_0 h0).1 dX12_paper_1 (Eq.refl 4) ?_
  refine xg_sipush dX12_paper_4 (Eq.refl 7) (by decide +kernel) ?_
  refine xg_aload_n dX12_paper_7 (Eq.refl 8) rfl ?_
  refine xg_getR (k := 0) xcl12 h0 rfl xq_122 rfl (xt_12_0 h0).1 dX12_paper_8 (Eq.refl 11) ?_
  refine xg_sipush dX12_paper_11 (Eq.refl 14) (by decide +kernel) ?_
  refine xg_iload_n dX12_paper_14 (Eq.refl 15) rfl ?_
  refine xg_iadd dX12_paper_15 (Eq.refl 16) ?_
  refine xg_lald (xt_12_0 h0).2 dX12_paper_16 (Eq.refl 17) ?_
  refine xg_l2i dX12_paper_17 (Eq.refl 18) ?_
  refine xg_iadd dX12_paper_18 (Eq.refl 19) ?_
  refine xg_lald (xt_12_0 h0).2 dX12_paper_19 (Eq.refl 20) ?_
  refine xg_l2i dX12_paper_20 (Eq.refl 21) ?_
  exact xg_iret rfl dX12_paper_21 rfl hM (w32_r _)
abbrev uX12_worth : xU := (RX12, cX12_worth, 2, (some .long), [], "worth")
theorem bX12_worth : xYV yX12_worth cX12_worth 2 (some .long) 1 := ⟨xq_839, xq_840, xq_5, xq_841, ⟨by decide +kernel, by decide +kernel, by decide +kernel⟩, by decide⟩
theorem mX12_worth {l : Launch} {G : xG} (hl : l.stackTraces = false) (x0 : Nat) (h0 : xOb 12 x0) (x1 : Int) (h1 : R32 x1) (M : xM) (hM : xcan M) : Cm l G yX12_worth cX12_worth 2 (some .long) 2 2 0 0 [.ref x0, iv x1] M (fX12_worth x0 x1 M) := by
  refine xcm_of (u := uX12_worth) (ls := [some (.ref x0), some (iv x1)]) 0 hl rfl (by decide +kernel) (Nat.le_of_ble_eq_true rfl) rfl ?_
  unfold fX12_worth
  refine xg_aload_n dX12_worth_0 (Eq.refl 1) rfl ?_
  refine xg_getR (k := 0) xcl12 h0 rfl xq_122 rfl (xt_12_0 h0).1 dX12_worth_1 (Eq.refl 4) ?_
  refine xg_sipush dX12_worth_4 (Eq.refl 7) (by decide +kernel) ?_
  refine xg_iload_n dX12_worth_7 (Eq.refl 8) rfl ?_
  refine xg_iadd dX12_worth_8 (Eq.refl 9) ?_
  refine xg_lald (xt_12_0 h0).2 dX12_worth_9 (Eq.refl 10) ?_
  refine xg_aload_n dX12_worth_10 (Eq.refl 11) rfl ?_
  refine xg_getR (k := 0) xcl12 h0 rfl xq_122 rfl (xt_12_0 h0).1 dX12_worth_11 (Eq.refl 14) ?_
  refine xg_sipush dX12_worth_14 (Eq.refl 17) (by decide +kernel) ?_
  refine xg_aload_n dX12_worth_17 (Eq.refl 18) rfl ?_
  refine xg_iload_n dX12_worth_18 (Eq.refl 19) rfl ?_
  refine xg_callV_I (kc := 0) (ks := 0) (st := [iv 184, .ref (xr x0 0), jv (M (xr x0 0) (w32 (770 + x1)).toNat)]) (mX12_paper hl x0 h0 x1 h1 M hM) bX12_paper xcl12 h0 rfl xq_842 rfl (by decide) rfl (Nat.le_of_ble_eq_true rfl) dX12_worth_19 (Eq.refl 22) rfl (by decide) (by decide) ?_
  intro z1 M2 hz1 hM2
  refine xg_iadd dX12_worth_22 (Eq.refl 23) ?_
  refine xg_lald (xt_12_0 h0).2 dX12_worth_23 (Eq.refl 24) ?_
  refine xg_lmul dX12_worth_24 (Eq.refl 25) ?_
  exact xg_lret rfl dX12_worth_25 rfl hM2 (w64_r _)
abbrev uX12_instruct : xU := (RX12, cX12_instruct, 14, (some .int), [], "instruct")
theorem bX12_instruct : xYV yX12_instruct cX12_instruct 14 (some .int) 9 := ⟨xq_473, xq_474, xq_5, xq_475, ⟨by decide +kernel, by decide +kernel, by decide +kernel⟩, by decide⟩
theorem gX12_instruct_391 {l : Launch} {G : xG} (hl : l.stackTraces = false) (x0 : Nat) (h0 : xOb 12 x0) (x12 : Int) (h12 : R32 x12) (x13 : Int) (h13 : R32 x13) (s0 : Int) (hs0 : R32 s0) (s1 : Nat) (hs1 : xOb 12 s1) (M : xM) (hM : xcan M) : Gv l G uX12_instruct 4 0 0 0 391 [some (.ref x0), none, none, none, none, none, none, none, none, none, none, none, some (iv x12), some (iv x13)] [iv s0, .ref s1] M (fX12_instruct_391 x0 x12 x13 s0 s1 M) := by
  unfold fX12_instruct_391
  refine xg_callV_Z (kc := 0) (ks := 0) (st := []) (mX12_holds hl s1 hs1 s0 hs0 M hM) bX12_holds xcl12 hs1 rfl xq_187 rfl (by decide) rfl (by decide) dX12_instruct_391 (Eq.refl 394) rfl (by decide) (by decide) ?_
  intro z1 M2 hz1 hM2
  refine xg_if_eq (tgt := 399) dX12_instruct_394 (Eq.refl 397) (by decide) (B01.r hz1) ?_ ?_
  · refine xg_aload_n dX12_instruct_399 (Eq.refl 400) rfl ?_
    refine xg_getR (k := 0) xcl12 h0 rfl xq_122 rfl (xt_12_0 h0).1 dX12_instruct_400 (Eq.refl 403) ?_
    refine xg_sipush dX12_instruct_403 (Eq.refl 406) (by decide +kernel) ?_
    refine xg_dup2 dX12_instruct_406 (Eq.refl 407) rfl rfl ?_
    refine xg_laldk (k := 1542) (xt_12_0 h0).2 dX12_instruct_407 (Eq.refl 408) rfl (by decide) ?_
    refine xg_lconst (z := 1) dX12_instruct_408 (Eq.refl 409) rfl ?_
    refine xg_ladd dX12_instruct_409 (Eq.refl 410) ?_
    refine xg_lastk (k := 1542) (xt_12_0 h0).2 dX12_instruct_410 (Eq.refl 411) rfl (by decide) hM2 (w64_r _) ?_
    intro M3 hM3
    refine xg_iload dX12_instruct_411 (Eq.refl 413) rfl ?_
    refine xg_if_lt (tgt := 425) dX12_instruct_413 (Eq.refl 416) (by decide) h13 ?_ ?_
    · refine xg_iload dX12_instruct_425 (Eq.refl 427) rfl ?_
      exact xg_iret rfl dX12_instruct_427 rfl hM3 h12
    · refine xg_aload_n dX12_instruct_416 (Eq.refl 417) rfl ?_
      refine xg_iload dX12_instruct_417 (Eq.refl 419) rfl ?_
      refine xg_iload dX12_instruct_419 (Eq.refl 421) rfl ?_
      refine xg_callV_I (kc := 0) (ks := 0) (st := []) (mX12_matched hl x0 h0 x12 h12 x13 h13 M3 hM3) bX12_matched xcl12 h0 rfl xq_485 rfl (by decide) rfl (by decide) dX12_instruct_421 (Eq.refl 424) rfl (by decide) (by decide) ?_
      intro z4 M5 hz4 hM5
      refine xg_pop dX12_instruct_424 (Eq.refl 425) rfl ?_
      refine xg_iload dX12_instruct_425 (Eq.refl 427) rfl ?_
      exact xg_iret rfl dX12_instruct_427 rfl hM5 h12
  · refine xg_iconst dX12_instruct_397 (Eq.refl 398) ?_
    exact xg_iret rfl dX12_instruct_398 rfl hM2 (by decide)
theorem gX12_instruct_390 {l : Launch} {G : xG} (hl : l.stackTraces = false) (x0 : Nat) (h0 : xOb 12 x0) (x12 : Int) (h12 : R32 x12) (x13 : Int) (h13 : R32 x13) (s0 : Nat) (hs0 : xOb 12 s0) (M : xM) (hM : xcan M) : Gv l G uX12_instruct 4 0 0 0 390 [some (.ref x0), none, none, none, none, none, none, none, none, none, none, none, some (iv x12), some (iv x13)] [.ref s0] M (fX12_instruct_390 x0 x12 x13 s0 M) := by
  unfold fX12_instruct_390
  refine xg_iconst dX12_instruct_390 (Eq.refl 391) ?_
  exact xg_jump (gX12_instruct_391 hl x0 h0 x12 h12 x13 h13 0 (by decide) s0 hs0 M hM) (xsb_s (xsb_n (xsb_n (xsb_n (xsb_n (xsb_n (xsb_n (xsb_n (xsb_n (xsb_n (xsb_n (xsb_n (xsb_s (xsb_s xsb_0)))))))))))))) (by decide) (by decide)
theorem gX12_instruct_386 {l : Launch} {G : xG} (hl : l.stackTraces = false) (x0 : Nat) (h0 : xOb 12 x0) (x12 : Int) (h12 : R32 x12) (x13 : Int) (h13 : R32 x13) (s0 : Nat) (hs0 : xOb 12 s0) (M : xM) (hM : xcan M) : Gv l G uX12_instruct 4 0 0 0 386 [some (.ref x0), none, none, none, none, none, none, none, none, none, none, none, some (iv x12), some (iv x13)] [.ref s0] M (fX12_instruct_386 x0 x12 x13 s0 M) := by
  unfold fX12_instruct_386
  refine xg_iconst dX12_instruct_386 (Eq.refl 387) ?_
  refine xg_goto (tgt := 391) dX12_instruct_387 (by decide) ?_
  exact xg_jump (gX12_instruct_391 hl x0 h0 x12 h12 x13 h13 3 (by decide) s0 hs0 M hM) (xsb_s (xsb_n (xsb_n (xsb_n (xsb_n (xsb_n (xsb_n (xsb_n (xsb_n (xsb_n (xsb_n (xsb_n (xsb_s (xsb_s xsb_0)))))))))))))) (by decide) (by decide)
theorem gX12_instruct_340 {l : Launch} {G : xG} (hl : l.stackTraces = false) (x0 : Nat) (h0 : xOb 12 x0) (x10 : Int) (h10 : B01 x10) (x11 : Int) (h11 : B01 x11) (x12 : Int) (h12 : R32 x12) (x13 : Int) (h13 : R32 x13) (M : xM) (hM : xcan M) : Gv l G uX12_instruct 4 0 0 0 340 [some (.ref x0), none, none, none, none, none, none, none, none, none, some (iv x10), some (iv x11), some (iv x12), some (iv x13)] [] M (fX12_instruct_340 x0 x10 x11 x12 x13 M) := by
  unfold fX12_instruct_340
  refine xg_aload_n dX12_instruct_340 (Eq.refl 341) rfl ?_
  refine xg_iload dX12_instruct_341 (Eq.refl 343) rfl ?_
  refine xg_if_ne (tgt := 350) dX12_instruct_343 (Eq.refl 346) (by decide) (B01.r h10) ?_ ?_
  · refine xg_iconst dX12_instruct_346 (Eq.refl 347) ?_
    refine xg_goto (tgt := 391) dX12_instruct_347 (by decide) ?_
    exact xg_jump (gX12_instruct_391 hl x0 h0 x12 h12 x13 h13 1 (by decide) x0 h0 M hM) (xsb_s (xsb_n (xsb_n (xsb_n (xsb_n (xsb_n (xsb_n (xsb_n (xsb_n (xsb_n (xsb_n (xsb_n (xsb_s (xsb_s xsb_0)))))))))))))) (by decide) (by decide)
  · refine xg_iload dX12_instruct_350 (Eq.refl 352) rfl ?_
    refine xg_if_ne (tgt := 359) dX12_instruct_352 (Eq.refl 355) (by decide) (B01.r h11) ?_ ?_
    · refine xg_iconst dX12_instruct_355 (Eq.refl 356) ?_
      refine xg_goto (tgt := 391) dX12_instruct_356 (by decide) ?_
      exact xg_jump (gX12_instruct_391 hl x0 h0 x12 h12 x13 h13 2 (by decide) x0 h0 M hM) (xsb_s (xsb_n (xsb_n (xsb_n (xsb_n (xsb_n (xsb_n (xsb_n (xsb_n (xsb_n (xsb_n (xsb_n (xsb_s (xsb_s xsb_0)))))))))))))) (by decide) (by decide)
    · refine xg_iload dX12_instruct_359 (Eq.refl 361) rfl ?_
      refine xg_bipush dX12_instruct_361 (Eq.refl 363) (by decide +kernel) ?_
      refine xg_icmp_eq (tgt := 386) dX12_instruct_363 (Eq.refl 366) (by decide) h12 (by decide) ?_ ?_
      · exact xg_jump (gX12_instruct_386 hl x0 h0 x12 h12 x13 h13 x0 h0 M hM) (xsb_s (xsb_n (xsb_n (xsb_n (xsb_n (xsb_n (xsb_n (xsb_n (xsb_n (xsb_n (xsb_n (xsb_n (xsb_s (xsb_s xsb_0)))))))))))))) (by decide) (by decide)
      · refine xg_iload dX12_instruct_366 (Eq.refl 368) rfl ?_
        refine xg_if_lt (tgt := 390) dX12_instruct_368 (Eq.refl 371) (by decide) h13 ?_ ?_
        · exact xg_jump (gX12_instruct_390 hl x0 h0 x12 h12 x13 h13 x0 h0 M hM) (xsb_s (xsb_n (xsb_n (xsb_n (xsb_n (xsb_n (xsb_n (xsb_n (xsb_n (xsb_n (xsb_n (xsb_n (xsb_s (xsb_s xsb_0)))))))))))))) (by decide) (by decide)
        · refine xg_aload_n dX12_instruct_371 (Eq.refl 372) rfl ?_
          refine xg_getR (k := 0) xcl12 h0 rfl xq_122 rfl (xt_12_0 h0).1 dX12_instruct_372 (Eq.refl 375) ?_
          refine xg_sipush dX12_instruct_375 (Eq.refl 378) (by decide +kernel) ?_
          refine xg_laldk (k := 1543) (xt_12_0 h0).2 dX12_instruct_378 (Eq.refl 379) rfl (by decide) ?_
          refine xg_ldc2 (z := 20) xq_479 dX12_instruct_379 (Eq.refl 382) (by decide +kernel) ?_
          refine xg_lif_ne (tgt := 390) dX12_instruct_382 (Eq.refl 383) dX12_instruct_383 (Eq.refl 386) (by decide) (hM.aj (xt_12_0 h0).2) (by decide) ?_ ?_
          · exact xg_jump (gX12_instruct_386 hl x0 h0 x12 h12 x13 h13 x0 h0 M hM) (xsb_s (xsb_n (xsb_n (xsb_n (xsb_n (xsb_n (xsb_n (xsb_n (xsb_n (xsb_n (xsb_n (xsb_n (xsb_s (xsb_s xsb_0)))))))))))))) (by decide) (by decide)
          · exact xg_jump (gX12_instruct_390 hl x0 h0 x12 h12 x13 h13 x0 h0 M hM) (xsb_s (xsb_n (xsb_n (xsb_n (xsb_n (xsb_n (xsb_n (xsb_n (xsb_n (xsb_n (xsb_n (xsb_n (xsb_s (xsb_s xsb_0)))))))))))))) (by decide) (by decide)
theorem gX12_instruct_197 {l : Launch} {G : xG} (hl : l.stackTraces = false) (x0 : Nat) (h0 : xOb 12 x0) (x4 : Int) (h4 : R32 x4) (x5 : Int) (h5 : R32 x5) (x6 : Int) (h6 : R32 x6) (x7 : Int) (h7 : R32 x7) (x8 : Int) (h8 : R32 x8) (x9 : Int) (h9 : R32 x9) (x10 : Int) (h10 : B01 x10) (x11 : Int) (h11 : B01 x11) (x12 : Int) (h12 : R32 x12) (s0 : Int) (hs0 : R64 s0) (s1 : Int) (hs1 : R32 s1) (s2 : Nat) (hs2 : xAn 1 1550 s2) (M : xM) (hM : xcan M) : Gv l G uX12_instruct 4 0 0 0 197 [some (.ref x0), none, none, none, some (iv x4), some (iv x5), some (iv x6), some (iv x7), some (iv x8), some (iv x9), some (iv x10), some (iv x11), some (iv x12), none] [jv s0, iv s1, .ref s2] M (fX12_instruct_197 x0 x4 x5 x6 x7 x8 x9 x10 x11 x12 s0 s1 s2 M) := by
  unfold fX12_instruct_197
  refine xg_last hs2 dX12_instruct_197 (Eq.refl 198) hM hs0 ?_
  intro M1 hM1
  refine xg_aload_n dX12_instruct_198 (Eq.refl 199) rfl ?_
  refine xg_getR (k := 0) xcl12 h0 rfl xq_122 rfl (xt_12_0 h0).1 dX12_instruct_199 (Eq.refl 202) ?_
  refine xg_sipush dX12_instruct_202 (Eq.refl 205) (by decide +kernel) ?_
  refine xg_iload dX12_instruct_205 (Eq.refl 207) rfl ?_
  refine xg_iadd dX12_instruct_207 (Eq.refl 208) ?_
  refine xg_iload dX12_instruct_208 (Eq.refl 210) rfl ?_
  refine xg_i2l dX12_instruct_210 (Eq.refl 211) h4 ?_
  refine xg_last (xt_12_0 h0).2 dX12_instruct_211 (Eq.refl 212) hM1 (R32.j h4) ?_
  intro M2 hM2
  refine xg_aload_n dX12_instruct_212 (Eq.refl 213) rfl ?_
  refine xg_getR (k := 0) xcl12 h0 rfl xq_122 rfl (xt_12_0 h0).1 dX12_instruct_213 (Eq.refl 216) ?_
  refine xg_sipush dX12_instruct_216 (Eq.refl 219) (by decide +kernel) ?_
  refine xg_iload dX12_instruct_219 (Eq.refl 221) rfl ?_
  refine xg_iadd dX12_instruct_221 (Eq.refl 222) ?_
  refine xg_iload dX12_instruct_222 (Eq.refl 224) rfl ?_
  refine xg_i2l dX12_instruct_224 (Eq.refl 225) h5 ?_
  refine xg_last (xt_12_0 h0).2 dX12_instruct_225 (Eq.refl 226) hM2 (R32.j h5) ?_
  intro M3 hM3
  refine xg_aload_n dX12_instruct_226 (Eq.refl 227) rfl ?_
  refine xg_getR (k := 0) xcl12 h0 rfl xq_122 rfl (xt_12_0 h0).1 dX12_instruct_227 (Eq.refl 230) ?_
  refine xg_sipush dX12_instruct_230 (Eq.refl 233) (by decide +kernel) ?_
  refine xg_iload dX12_instruct_233 (Eq.refl 235) rfl ?_
  refine xg_iadd dX12_instruct_235 (Eq.refl 236) ?_
  refine xg_iload dX12_instruct_236 (Eq.refl 238) rfl ?_
  refine xg_i2l dX12_instruct_238 (Eq.refl 239) h6 ?_
  refine xg_last (xt_12_0 h0).2 dX12_instruct_239 (Eq.refl 240) hM3 (R32.j h6) ?_
  intro M4 hM4
  refine xg_aload_n dX12_instruct_240 (Eq.refl 241) rfl ?_
  refine xg_getR (k := 0) xcl12 h0 rfl xq_122 rfl (xt_12_0 h0).1 dX12_instruct_241 (Eq.refl 244) ?_
  refine xg_sipush dX12_instruct_244 (Eq.refl 247) (by decide +kernel) ?_
  refine xg_iload dX12_instruct_247 (Eq.refl 249) rfl ?_
  refine xg_iadd dX12_instruct_249 (Eq.refl 250) ?_
  refine xg_iload dX12_instruct_250 (Eq.refl 252) rfl ?_
  refine xg_i2l dX12_instruct_252 (Eq.refl 253) h7 ?_
  refine xg_last (xt_12_0 h0).2 dX12_instruct_253 (Eq.refl 254) hM4 (R32.j h7) ?_
  intro M5 hM5
  refine xg_aload_n dX12_instruct_254 (Eq.refl 255) rfl ?_
  refine xg_getR (k := 0) xcl12 h0 rfl xq_122 rfl (xt_12_0 h0).1 dX12_instruct_255 (Eq.refl 258) ?_
  refine xg_sipush dX12_instruct_258 (Eq.refl 261) (by decide +kernel) ?_
  refine xg_iload dX12_instruct_261 (Eq.refl 263) rfl ?_
  refine xg_iadd dX12_instruct_263 (Eq.refl 264) ?_
  refine xg_iload dX12_instruct_264 (Eq.refl 266) rfl ?_
  refine xg_i2l dX12_instruct_266 (Eq.refl 267) h8 ?_
  refine xg_last (xt_12_0 h0).2 dX12_instruct_267 (Eq.refl 268) hM5 (R32.j h8) ?_
  intro M6 hM6
  refine xg_aload_n dX12_instruct_268 (Eq.refl 269) rfl ?_
  refine xg_getR (k := 0) xcl12 h0 rfl xq_122 rfl (xt_12_0 h0).1 dX12_instruct_269 (Eq.refl 272) ?_
  refine xg_sipush dX12_instruct_272 (Eq.refl 275) (by decide +kernel) ?_
  refine xg_iload dX12_instruct_275 (Eq.refl 277) rfl ?_
  refine xg_iadd dX12_instruct_277 (Eq.refl 278) ?_
  refine xg_iload dX12_instruct_278 (Eq.refl 280) rfl ?_
  refine xg_i2l dX12_instruct_280 (Eq.refl 281) h9 ?_
  refine xg_last (xt_12_0 h0).2 dX12_instruct_281 (Eq.refl 282) hM6 (R32.j h9) ?_
  intro M7 hM7
  refine xg_aload_n dX12_instruct_282 (Eq.refl 283) rfl ?_
  refine xg_getR (k := 0) xcl12 h0 rfl xq_122 rfl (xt_12_0 h0).1 dX12_instruct_283 (Eq.refl 286) ?_
  refine xg_sipush dX12_instruct_286 (Eq.refl 289) (by decide +kernel) ?_
  refine xg_iload dX12_instruct_289 (Eq.refl 291) rfl ?_
  refine xg_iadd dX12_instruct_291 (Eq.refl 292) ?_
  refine xg_lconst (z := 0) dX12_instruct_292 (Eq.refl 293) rfl ?_
  refine xg_last (xt_12_0 h0).2 dX12_instruct_293 (Eq.refl 294) hM7 (by decide) ?_
  intro M8 hM8
  refine xg_aload_n dX12_instruct_294 (Eq.refl 295) rfl ?_
  refine xg_getR (k := 0) xcl12 h0 rfl xq_122 rfl (xt_12_0 h0).1 dX12_instruct_295 (Eq.refl 298) ?_
  refine xg_sipush dX12_instruct_298 (Eq.refl 301) (by decide +kernel) ?_
  refine xg_iload dX12_instruct_301 (Eq.refl 303) rfl ?_
  refine xg_iadd dX12_instruct_303 (Eq.refl 304) ?_
  refine xg_lconst (z := 0) dX12_instruct_304 (Eq.refl 305) rfl ?_
  refine xg_last (xt_12_0 h0).2 dX12_instruct_305 (Eq.refl 306) hM8 (by decide) ?_
  intro M9 hM9
  refine xg_aload_n dX12_instruct_306 (Eq.refl 307) rfl ?_
  refine xg_getR (k := 0) xcl12 h0 rfl xq_122 rfl (xt_12_0 h0).1 dX12_instruct_307 (Eq.refl 310) ?_
  refine xg_sipush dX12_instruct_310 (Eq.refl 313) (by decide +kernel) ?_
  refine xg_iload dX12_instruct_313 (Eq.refl 315) rfl ?_
  refine xg_iadd dX12_instruct_315 (Eq.refl 316) ?_
  refine xg_ldc2 (z := (-1)) xq_320 dX12_instruct_316 (Eq.refl 319) (by decide +kernel) ?_
  refine xg_last (xt_12_0 h0).2 dX12_instruct_319 (Eq.refl 320) hM9 (by decide) ?_
  intro M10 hM10
  refine xg_aload_n dX12_instruct_320 (Eq.refl 321) rfl ?_
  refine xg_getR (k := 0) xcl12 h0 rfl xq_122 rfl (xt_12_0 h0).1 dX12_instruct_321 (Eq.refl 324) ?_
  refine xg_sipush dX12_instruct_324 (Eq.refl 327) (by decide +kernel) ?_
  refine xg_iload dX12_instruct_327 (Eq.refl 329) rfl ?_
  refine xg_iadd dX12_instruct_329 (Eq.refl 330) ?_
  refine xg_lconst (z := 0) dX12_instruct_330 (Eq.refl 331) rfl ?_
  refine xg_last (xt_12_0 h0).2 dX12_instruct_331 (Eq.refl 332) hM10 (by decide) ?_
  intro M11 hM11
  refine xg_aload_n dX12_instruct_332 (Eq.refl 333) rfl ?_
  refine xg_iload dX12_instruct_333 (Eq.refl 335) rfl ?_
  refine xg_callV_I (kc := 0) (ks := 0) (st := []) (mX12_mate hl x0 h0 x12 h12 M11 hM11) bX12_mate xcl12 h0 rfl xq_480 rfl (by decide) rfl (by decide) dX12_instruct_335 (Eq.refl 338) rfl (by decide) (by decide) ?_
  intro z12 M13 hz12 hM13
  refine xg_istore (ls2 := [some (.ref x0), none, none, none, some (iv x4), some (iv x5), some (iv x6), some (iv x7), some (iv x8), some (iv x9), some (iv x10), some (iv x11), some (iv x12), some (iv z12)]) dX12_instruct_338 (Eq.refl 340) (by decide) rfl ?_
  exact xg_jump (gX12_instruct_340 hl x0 h0 x10 h10 x11 h11 x12 h12 z12 hz12 M13 hM13) (xsb_s (xsb_n (xsb_n (xsb_n (xsb_n (xsb_n (xsb_n (xsb_n (xsb_n (xsb_n (xsb_s (xsb_s (xsb_s (xsb_s xsb_0)))))))))))))) (by decide) (by decide)
theorem gX12_instruct_119 {l : Launch} {G : xG} (hl : l.stackTraces = false) (x0 : Nat) (h0 : xOb 12 x0) (x1 : Int) (h1 : R32 x1) (x2 : Int) (h2 : R32 x2) (x3 : Int) (h3 : B01 x3) (x4 : Int) (h4 : R32 x4) (x5 : Int) (h5 : R32 x5) (x6 : Int) (h6 : R32 x6) (x7 : Int) (h7 : R32 x7) (x8 : Int) (h8 : R32 x8) (x9 : Int) (h9 : R32 x9) (x10 : Int) (h10 : B01 x10) (s0 : Int) (hs0 : B01 s0) (M : xM) (hM : xcan M) : Gv l G uX12_instruct 4 0 0 0 119 [some (.ref x0), some (iv x1), some (iv x2), some (iv x3), some (iv x4), some (iv x5), some (iv x6), some (iv x7), some (iv x8), some (iv x9), some (iv x10), none, none, none] [iv s0] M (fX12_instruct_119 x0 x1 x2 x3 x4 x5 x6 x7 x8 x9 x10 s0 M) := by
  unfold fX12_instruct_119
  refine xg_istore (ls2 := [some (.ref x0), some (iv x1), some (iv x2), some (iv x3), some (iv x4), some (iv x5), some (iv x6), some (iv x7), some (iv x8), some (iv x9), some (iv x10), some (iv s0), none, none]) dX12_instruct_119 (Eq.refl 121) (by decide) rfl ?_
  refine xg_aload_n dX12_instruct_121 (Eq.refl 122) rfl ?_
  refine xg_getR (k := 0) xcl12 h0 rfl xq_122 rfl (xt_12_0 h0).1 dX12_instruct_122 (Eq.refl 125) ?_
  refine xg_sipush dX12_instruct_125 (Eq.refl 128) (by decide +kernel) ?_
  refine xg_laldk (k := 1542) (xt_12_0 h0).2 dX12_instruct_128 (Eq.refl 129) rfl (by decide) ?_
  refine xg_l2i dX12_instruct_129 (Eq.refl 130) ?_
  refine xg_istoreL (P := R32) (ls2 := fun y1 => [some (.ref x0), some (iv x1), some (iv x2), some (iv x3), some (iv x4), some (iv x5), some (iv x6), some (iv x7), some (iv x8), some (iv x9), some (iv x10), some (iv s0), some (iv y1), none]) dX12_instruct_130 (Eq.refl 132) (by decide) (w32_r _) (fun _ => rfl) ?_
  intro y1 hy1
  refine xg_iconst dX12_instruct_132 (Eq.refl 133) ?_
  refine xg_istore (ls2 := [some (.ref x0), some (iv x1), some (iv x2), some (iv x3), some (iv x4), some (iv x5), some (iv x6), some (iv x7), some (iv x8), some (iv x9), some (iv x10), some (iv s0), some (iv y1), some (iv (-1))]) dX12_instruct_133 (Eq.refl 135) (by decide) rfl ?_
  refine xg_iload dX12_instruct_135 (Eq.refl 137) rfl ?_
  refine xg_if_eq (tgt := 340) dX12_instruct_137 (Eq.refl 140) (by decide) (B01.r h10) ?_ ?_
  · exact xg_jump (gX12_instruct_340 hl x0 h0 x10 h10 s0 hs0 y1 hy1 (-1) (by decide) M hM) (xsb_s (xsb_n (xsb_n (xsb_n (xsb_n (xsb_n (xsb_n (xsb_n (xsb_n (xsb_n (xsb_s (xsb_s (xsb_s (xsb_s xsb_0)))))))))))))) (by decide) (by decide)
  · refine xg_iload dX12_instruct_140 (Eq.refl 142) rfl ?_
    refine xg_if_eq (tgt := 340) dX12_instruct_142 (Eq.refl 145) (by decide) (B01.r hs0) ?_ ?_
    · exact xg_jump (gX12_instruct_340 hl x0 h0 x10 h10 s0 hs0 y1 hy1 (-1) (by decide) M hM) (xsb_s (xsb_n (xsb_n (xsb_n (xsb_n (xsb_n (xsb_n (xsb_n (xsb_n (xsb_n (xsb_s (xsb_s (xsb_s (xsb_s xsb_0)))))))))))))) (by decide) (by decide)
    · refine xg_iload dX12_instruct_145 (Eq.refl 147) rfl ?_
      refine xg_bipush dX12_instruct_147 (Eq.refl 149) (by decide +kernel) ?_
      refine xg_icmp_ge (tgt := 340) dX12_instruct_149 (Eq.refl 152) (by decide) hy1 (by decide) ?_ ?_
      · exact xg_jump (gX12_instruct_340 hl x0 h0 x10 h10 s0 hs0 y1 hy1 (-1) (by decide) M hM) (xsb_s (xsb_n (xsb_n (xsb_n (xsb_n (xsb_n (xsb_n (xsb_n (xsb_n (xsb_n (xsb_s (xsb_s (xsb_s (xsb_s xsb_0)))))))))))))) (by decide) (by decide)
      · refine xg_aload_n dX12_instruct_152 (Eq.refl 153) rfl ?_
        refine xg_getR (k := 0) xcl12 h0 rfl xq_122 rfl (xt_12_0 h0).1 dX12_instruct_153 (Eq.refl 156) ?_
        refine xg_sipush dX12_instruct_156 (Eq.refl 159) (by decide +kernel) ?_
        refine xg_iload dX12_instruct_159 (Eq.refl 161) rfl ?_
        refine xg_iadd dX12_instruct_161 (Eq.refl 162) ?_
        refine xg_iload_n dX12_instruct_162 (Eq.refl 163) rfl ?_
        refine xg_i2l dX12_instruct_163 (Eq.refl 164) h1 ?_
        refine xg_last (xt_12_0 h0).2 dX12_instruct_164 (Eq.refl 165) hM (R32.j h1) ?_
        intro M2 hM2
        refine xg_aload_n dX12_instruct_165 (Eq.refl 166) rfl ?_
        refine xg_getR (k := 0) xcl12 h0 rfl xq_122 rfl (xt_12_0 h0).1 dX12_instruct_166 (Eq.refl 169) ?_
        refine xg_sipush dX12_instruct_169 (Eq.refl 172) (by decide +kernel) ?_
        refine xg_iload dX12_instruct_172 (Eq.refl 174) rfl ?_
        refine xg_iadd dX12_instruct_174 (Eq.refl 175) ?_
        refine xg_iload_n dX12_instruct_175 (Eq.refl 176) rfl ?_
        refine xg_i2l dX12_instruct_176 (Eq.refl 177) h2 ?_
        refine xg_last (xt_12_0 h0).2 dX12_instruct_177 (Eq.refl 178) hM2 (R32.j h2) ?_
        intro M3 hM3
        refine xg_aload_n dX12_instruct_178 (Eq.refl 179) rfl ?_
        refine xg_getR (k := 0) xcl12 h0 rfl xq_122 rfl (xt_12_0 h0).1 dX12_instruct_179 (Eq.refl 182) ?_
        refine xg_sipush dX12_instruct_182 (Eq.refl 185) (by decide +kernel) ?_
        refine xg_iload dX12_instruct_185 (Eq.refl 187) rfl ?_
        refine xg_iadd dX12_instruct_187 (Eq.refl 188) ?_
        refine xg_iload_n dX12_instruct_188 (Eq.refl 189) rfl ?_
        refine xg_if_eq (tgt := 196) dX12_instruct_189 (Eq.refl 192) (by decide) (B01.r h3) ?_ ?_
        · refine xg_lconst (z := 0) dX12_instruct_196 (Eq.refl 197) rfl ?_
          exact xg_jump (gX12_instruct_197 hl x0 h0 x4 h4 x5 h5 x6 h6 x7 h7 x8 h8 x9 h9 x10 h10 s0 hs0 y1 hy1 0 (by decide) (w32 (290 + y1)) (w32_r _) (xr x0 0) (xt_12_0 h0).2 M3 hM3) (xsb_s (xsb_n (xsb_n (xsb_n (xsb_s (xsb_s (xsb_s (xsb_s (xsb_s (xsb_s (xsb_s (xsb_s (xsb_s (xsb_n xsb_0)))))))))))))) (by decide) (by decide)
        · refine xg_lconst (z := 1) dX12_instruct_192 (Eq.refl 193) rfl ?_
          refine xg_goto (tgt := 197) dX12_instruct_193 (by decide) ?_
          exact xg_jump (gX12_instruct_197 hl x0 h0 x4 h4 x5 h5 x6 h6 x7 h7 x8 h8 x9 h9 x10 h10 s0 hs0 y1 hy1 1 (by decide) (w32 (290 + y1)) (w32_r _) (xr x0 0) (xt_12_0 h0).2 M3 hM3) (xsb_s (xsb_n (xsb_n (xsb_n (xsb_s (xsb_s (xsb_s (xsb_s (xsb_s (xsb_s (xsb_s (xsb_s (xsb_s (xsb_n xsb_0)))))))))))))) (by decide) (by decide)
theorem gX12_instruct_118 {l : Launch} {G : xG} (hl : l.stackTraces = false) (x0 : Nat) (h0 : xOb 12 x0) (x1 : Int) (h1 : R32 x1) (x2 : Int) (h2 : R32 x2) (x3 : Int) (h3 : B01 x3) (x4 : Int) (h4 : R32 x4) (x5 : Int) (h5 : R32 x5) (x6 : Int) (h6 : R32 x6) (x7 : Int) (h7 : R32 x7) (x8 : Int) (h8 : R32 x8) (x9 : Int) (h9 : R32 x9) (x10 : Int) (h10 : B01 x10) (M : xM) (hM : xcan M) : Gv l G uX12_instruct 4 0 0 0 118 [some (.ref x0), some (iv x1), some (iv x2), some (iv x3), some (iv x4), some (iv x5), some (iv x6), some (iv x7), some (iv x8), some (iv x9), some (iv x10), none, none, none] [] M (fX12_instruct_118 x0 x1 x2 x3 x4 x5 x6 x7 x8 x9 x10 M) := by
  unfold fX12_instruct_118
  refine xg_iconst dX12_instruct_118 (Eq.refl 119) ?_
  exact xg_jump (gX12_instruct_119 hl x0 h0 x1 h1 x2 h2 x3 h3 x4 h4 x5 h5 x6 h6 x7 h7 x8 h8 x9 h9 x10 h10 0 (by decide) M hM) (xsb_s (xsb_s (xsb_s (xsb_s (xsb_s (xsb_s (xsb_s (xsb_s (xsb_s (xsb_s (xsb_s (xsb_n (xsb_n (xsb_n xsb_0)))))))))))))) (by decide) (by decide)
theorem gX12_instruct_30 {l : Launch} {G : xG} (hl : l.stackTraces = false) (x0 : Nat) (h0 : xOb 12 x0) (x1 : Int) (h1 : R32 x1) (x2 : Int) (h2 : R32 x2) (x3 : Int) (h3 : B01 x3) (x4 : Int) (h4 : R32 x4) (x5 : Int) (h5 : R32 x5) (x6 : Int) (h6 : R32 x6) (x7 : Int) (h7 : R32 x7) (x8 : Int) (h8 : R32 x8) (x9 : Int) (h9 : R32 x9) (s0 : Int) (hs0 : B01 s0) (M : xM) (hM : xcan M) : Gv l G uX12_instruct 4 0 0 0 30 [some (.ref x0), some (iv x1), some (iv x2), some (iv x3), some (iv x4), some (iv x5), some (iv x6), some (iv x7), some (iv x8), some (iv x9), none, none, none, none] [iv s0] M (fX12_instruct_30 x0 x1 x2 x3 x4 x5 x6 x7 x8 x9 s0 M) := by
  unfold fX12_instruct_30
  refine xg_istore (ls2 := [some (.ref x0), some (iv x1), some (iv x2), some (iv x3), some (iv x4), some (iv x5), some (iv x6), some (iv x7), some (iv x8), some (iv x9), some (iv s0), none, none, none]) dX12_instruct_30 (Eq.refl 32) (by decide) rfl ?_
  refine xg_iload_n dX12_instruct_32 (Eq.refl 33) rfl ?_
  refine xg_iload_n dX12_instruct_33 (Eq.refl 34) rfl ?_
  refine xg_icmp_eq (tgt := 118) dX12_instruct_34 (Eq.refl 37) (by decide) h1 h2 ?_ ?_
  · exact xg_jump (gX12_instruct_118 hl x0 h0 x1 h1 x2 h2 x3 h3 x4 h4 x5 h5 x6 h6 x7 h7 x8 h8 x9 h9 s0 hs0 M hM) (xsb_s (xsb_s (xsb_s (xsb_s (xsb_s (xsb_s (xsb_s (xsb_s (xsb_s (xsb_s (xsb_s (xsb_n (xsb_n (xsb_n xsb_0)))))))))))))) (by decide) (by decide)
  · refine xg_aload_n dX12_instruct_37 (Eq.refl 38) rfl ?_
    refine xg_iload dX12_instruct_38 (Eq.refl 40) rfl ?_
    refine xg_i2l dX12_instruct_40 (Eq.refl 41) h5 ?_
    refine xg_lconst (z := 1) dX12_instruct_41 (Eq.refl 42) rfl ?_
    refine xg_ldc2 (z := 100000) xq_274 dX12_instruct_42 (Eq.refl 45) (by decide +kernel) ?_
    refine xg_callV_Z (kc := 0) (ks := 0) (st := []) (mX12_in hl x0 h0 x5 (R32.j h5) 1 (by decide) 100000 (by decide) M hM) bX12_in xcl12 h0 rfl xq_179 rfl (by decide) rfl (by decide) dX12_instruct_45 (Eq.refl 48) rfl (by decide) (by decide) ?_
    intro z1 M2 hz1 hM2
    refine xg_if_eq (tgt := 118) dX12_instruct_48 (Eq.refl 51) (by decide) (B01.r hz1) ?_ ?_
    · exact xg_jump (gX12_instruct_118 hl x0 h0 x1 h1 x2 h2 x3 h3 x4 h4 x5 h5 x6 h6 x7 h7 x8 h8 x9 h9 s0 hs0 M2 hM2) (xsb_s (xsb_s (xsb_s (xsb_s (xsb_s (xsb_s (xsb_s (xsb_s (xsb_s (xsb_s (xsb_s (xsb_n (xsb_n (xsb_n xsb_0)))))))))))))) (by decide) (by decide)
    · refine xg_aload_n dX12_instruct_51 (Eq.refl 52) rfl ?_
      refine xg_iload dX12_instruct_52 (Eq.refl 54) rfl ?_
      refine xg_i2l dX12_instruct_54 (Eq.refl 55) h6 ?_
      refine xg_lconst (z := 0) dX12_instruct_55 (Eq.refl 56) rfl ?_
      refine xg_ldc2 (z := 100000000) xq_476 dX12_instruct_56 (Eq.refl 59) (by decide +kernel) ?_
      refine xg_callV_Z (kc := 0) (ks := 0) (st := []) (mX12_in hl x0 h0 x6 (R32.j h6) 0 (by decide) 100000000 (by decide) M2 hM2) bX12_in xcl12 h0 rfl xq_179 rfl (by decide) rfl (by decide) dX12_instruct_59 (Eq.refl 62) rfl (by decide) (by decide) ?_
      intro z3 M4 hz3 hM4
      refine xg_if_eq (tgt := 118) dX12_instruct_62 (Eq.refl 65) (by decide) (B01.r hz3) ?_ ?_
      · exact xg_jump (gX12_instruct_118 hl x0 h0 x1 h1 x2 h2 x3 h3 x4 h4 x5 h5 x6 h6 x7 h7 x8 h8 x9 h9 s0 hs0 M4 hM4) (xsb_s (xsb_s (xsb_s (xsb_s (xsb_s (xsb_s (xsb_s (xsb_s (xsb_s (xsb_s (xsb_s (xsb_n (xsb_n (xsb_n xsb_0)))))))))))))) (by decide) (by decide)
      · refine xg_aload_n dX12_instruct_65 (Eq.refl 66) rfl ?_
        refine xg_iload dX12_instruct_66 (Eq.refl 68) rfl ?_
        refine xg_i2l dX12_instruct_68 (Eq.refl 69) h7 ?_
        refine xg_aload_n dX12_instruct_69 (Eq.refl 70) rfl ?_
        refine xg_getR (k := 0) xcl12 h0 rfl xq_122 rfl (xt_12_0 h0).1 dX12_instruct_70 (Eq.refl 73) ?_
        refine xg_sipush dX12_instruct_73 (Eq.refl 76) (by decide +kernel) ?_
        refine xg_laldk (k := 1547) (xt_12_0 h0).2 dX12_instruct_76 (Eq.refl 77) rfl (by decide) ?_
        refine xg_ldc2 (z := 2000) xq_477 dX12_instruct_77 (Eq.refl 80) (by decide +kernel) ?_
        refine xg_callV_Z (kc := 0) (ks := 0) (st := []) (mX12_in hl x0 h0 x7 (R32.j h7) (M4 (xr x0 0) 1547) (hM4.aj (xt_12_0 h0).2) 2000 (by decide) M4 hM4) bX12_in xcl12 h0 rfl xq_179 rfl (by decide) rfl (by decide) dX12_instruct_80 (Eq.refl 83) rfl (by decide) (by decide) ?_
        intro z5 M6 hz5 hM6
        refine xg_if_eq (tgt := 118) dX12_instruct_83 (Eq.refl 86) (by decide) (B01.r hz5) ?_ ?_
        · exact xg_jump (gX12_instruct_118 hl x0 h0 x1 h1 x2 h2 x3 h3 x4 h4 x5 h5 x6 h6 x7 h7 x8 h8 x9 h9 s0 hs0 M6 hM6) (xsb_s (xsb_s (xsb_s (xsb_s (xsb_s (xsb_s (xsb_s (xsb_s (xsb_s (xsb_s (xsb_s (xsb_n (xsb_n (xsb_n xsb_0)))))))))))))) (by decide) (by decide)
        · refine xg_aload_n dX12_instruct_86 (Eq.refl 87) rfl ?_
          refine xg_iload dX12_instruct_87 (Eq.refl 89) rfl ?_
          refine xg_i2l dX12_instruct_89 (Eq.refl 90) h8 ?_
          refine xg_lconst (z := 0) dX12_instruct_90 (Eq.refl 91) rfl ?_
          refine xg_ldc2 (z := 9) xq_478 dX12_instruct_91 (Eq.refl 94) (by decide +kernel) ?_
          refine xg_callV_Z (kc := 0) (ks := 0) (st := []) (mX12_in hl x0 h0 x8 (R32.j h8) 0 (by decide) 9 (by decide) M6 hM6) bX12_in xcl12 h0 rfl xq_179 rfl (by decide) rfl (by decide) dX12_instruct_94 (Eq.refl 97) rfl (by decide) (by decide) ?_
          intro z7 M8 hz7 hM8
          refine xg_if_eq (tgt := 118) dX12_instruct_97 (Eq.refl 100) (by decide) (B01.r hz7) ?_ ?_
          · exact xg_jump (gX12_instruct_118 hl x0 h0 x1 h1 x2 h2 x3 h3 x4 h4 x5 h5 x6 h6 x7 h7 x8 h8 x9 h9 s0 hs0 M8 hM8) (xsb_s (xsb_s (xsb_s (xsb_s (xsb_s (xsb_s (xsb_s (xsb_s (xsb_s (xsb_s (xsb_s (xsb_n (xsb_n (xsb_n xsb_0)))))))))))))) (by decide) (by decide)
          · refine xg_aload_n dX12_instruct_100 (Eq.refl 101) rfl ?_
            refine xg_iload dX12_instruct_101 (Eq.refl 103) rfl ?_
            refine xg_i2l dX12_instruct_103 (Eq.refl 104) h9 ?_
            refine xg_lconst (z := 0) dX12_instruct_104 (Eq.refl 105) rfl ?_
            refine xg_iload dX12_instruct_105 (Eq.refl 107) rfl ?_
            refine xg_i2l dX12_instruct_107 (Eq.refl 108) h5 ?_
            refine xg_callV_Z (kc := 0) (ks := 0) (st := []) (mX12_in hl x0 h0 x9 (R32.j h9) 0 (by decide) x5 (R32.j h5) M8 hM8) bX12_in xcl12 h0 rfl xq_179 rfl (by decide) rfl (by decide) dX12_instruct_108 (Eq.refl 111) rfl (by decide) (by decide) ?_
            intro z9 M10 hz9 hM10
            refine xg_if_eq (tgt := 118) dX12_instruct_111 (Eq.refl 114) (by decide) (B01.r hz9) ?_ ?_
            · exact xg_jump (gX12_instruct_118 hl x0 h0 x1 h1 x2 h2 x3 h3 x4 h4 x5 h5 x6 h6 x7 h7 x8 h8 x9 h9 s0 hs0 M10 hM10) (xsb_s (xsb_s (xsb_s (xsb_s (xsb_s (xsb_s (xsb_s (xsb_s (xsb_s (xsb_s (xsb_s (xsb_n (xsb_n (xsb_n xsb_0)))))))))))))) (by decide) (by decide)
            · refine xg_iconst dX12_instruct_114 (Eq.refl 115) ?_
              refine xg_goto (tgt := 119) dX12_instruct_115 (by decide) ?_
              exact xg_jump (gX12_instruct_119 hl x0 h0 x1 h1 x2 h2 x3 h3 x4 h4 x5 h5 x6 h6 x7 h7 x8 h8 x9 h9 s0 hs0 1 (by decide) M10 hM10) (xsb_s (xsb_s (xsb_s (xsb_s (xsb_s (xsb_s (xsb_s (xsb_s (xsb_s (xsb_s (xsb_s (xsb_n (xsb_n (xsb_n xsb_0)))))))))))))) (by decide) (by decide)
theorem gX12_instruct_29 {l : Launch} {G : xG} (hl : l.stackTraces = false) (x0 : Nat) (h0 : xOb 12 x0) (x1 : Int) (h1 : R32 x1) (x2 : Int) (h2 : R32 x2) (x3 : Int) (h3 : B01 x3) (x4 : Int) (h4 : R32 x4) (x5 : Int) (h5 : R32 x5) (x6 : Int) (h6 : R32 x6) (x7 : Int) (h7 : R32 x7) (x8 : Int) (h8 : R32 x8) (x9 : Int) (h9 : R32 x9) (M : xM) (hM : xcan M) : Gv l G uX12_instruct 4 0 0 0 29 [some (.ref x0), some (iv x1), some (iv x2), some (iv x3), some (iv x4), some (iv x5), some (iv x6), some (iv x7), some (iv x8), some (iv x9), none, none, none, none] [] M (fX12_instruct_29 x0 x1 x2 x3 x4 x5 x6 x7 x8 x9 M) := by
  unfold fX12_instruct_29
  refine xg_iconst dX12_instruct_29 (Eq.refl 30) ?_
  exact xg_jump (gX12_instruct_30 hl x0 h0 x1 h1 x2 h2 x3 h3 x4 h4 x5 h5 x6 h6 x7 h7 x8 h8 x9 h9 0 (by decide) M hM) (xsb_s (xsb_s (xsb_s (xsb_s (xsb_s (xsb_s (xsb_s (xsb_s (xsb_s (xsb_s (xsb_n (xsb_n (xsb_n (xsb_n xsb_0)))))))))))))) (by decide) (by decide)
theorem mX12_instruct {l : Launch} {G : xG} (hl : l.stackTraces = false) (x0 : Nat) (h0 : xOb 12 x0) (x1 : Int) (h1 : R32 x1) (x2 : Int) (h2 : R32 x2) (x3 : Int) (h3 : B01 x3) (x4 : Int) (h4 : R32 x4) (x5 : Int) (h5 : R32 x5) (x6 : Int) (h6 : R32 x6) (x7 : Int) (h7 : R32 x7) (x8 : Int) (h8 : R32 x8) (x9 : Int) (h9 : R32 x9) (M : xM) (hM : xcan M) : Cm l G yX12_instruct cX12_instruct 14 (some .int) 4 0 0 0 [.ref x0, iv x1, iv x2, iv x3, iv x4, iv x5, iv x6, iv x7, iv x8, iv x9] M (fX12_instruct x0 x1 x2 x3 x4 x5 x6 x7 x8 x9 M) := by
  refine xcm_of (u := uX12_instruct) (ls := [some (.ref x0), some (iv x1), some (iv x2), some (iv x3), some (iv x4), some (iv x5), some (iv x6), some (iv x7), some (iv x8), some (iv x9), none, none, none, none]) 4 hl rfl (by decide +kernel) (Nat.le_of_ble_eq_true rfl) rfl ?_
  unfold fX12_instruct
  refine xg_aload_n dX12_instruct_0 (Eq.refl 1) rfl ?_
  refine xg_iload_n dX12_instruct_1 (Eq.refl 2) rfl ?_
  refine xg_callV_Z (kc := 0) (ks := 0) (st := []) (mX12_isAccount hl x0 h0 x1 h1 M hM) bX12_isAccount xcl12 h0 rfl xq_183 rfl (by decide) rfl (by decide) dX12_instruct_2 (Eq.refl 5) rfl (by decide) (by decide) ?_
  intro z1 M2 hz1 hM2
  refine xg_if_eq (tgt := 29) dX12_instruct_5 (Eq.refl 8) (by decide) (B01.r hz1) ?_ ?_
  · exact xg_jump (gX12_instruct_29 hl x0 h0 x1 h1 x2 h2 x3 h3 x4 h4 x5 h5 x6 h6 x7 h7 x8 h8 x9 h9 M2 hM2) (xsb_s (xsb_s (xsb_s (xsb_s (xsb_s (xsb_s (xsb_s (xsb_s (xsb_s (xsb_s (xsb_n (xsb_n (xsb_n (xsb_n xsb_0)))))))))))))) (by decide) (by decide)
  · refine xg_aload_n dX12_instruct_8 (Eq.refl 9) rfl ?_
    refine xg_iload_n dX12_instruct_9 (Eq.refl 10) rfl ?_
    refine xg_callV_Z (kc := 0) (ks := 0) (st := []) (mX12_isAccount hl x0 h0 x2 h2 M2 hM2) bX12_isAccount xcl12 h0 rfl xq_183 rfl (by decide) rfl (by decide) dX12_instruct_10 (Eq.refl 13) rfl (by decide) (by decide) ?_
    intro z3 M4 hz3 hM4
    refine xg_if_eq (tgt := 29) dX12_instruct_13 (Eq.refl 16) (by decide) (B01.r hz3) ?_ ?_
    · exact xg_jump (gX12_instruct_29 hl x0 h0 x1 h1 x2 h2 x3 h3 x4 h4 x5 h5 x6 h6 x7 h7 x8 h8 x9 h9 M4 hM4) (xsb_s (xsb_s (xsb_s (xsb_s (xsb_s (xsb_s (xsb_s (xsb_s (xsb_s (xsb_s (xsb_n (xsb_n (xsb_n (xsb_n xsb_0)))))))))))))) (by decide) (by decide)
    · refine xg_aload_n dX12_instruct_16 (Eq.refl 17) rfl ?_
      refine xg_iload dX12_instruct_17 (Eq.refl 19) rfl ?_
      refine xg_callV_Z (kc := 0) (ks := 0) (st := []) (mX12_isSecurity hl x0 h0 x4 h4 M4 hM4) bX12_isSecurity xcl12 h0 rfl xq_293 rfl (by decide) rfl (by decide) dX12_instruct_19 (Eq.refl 22) rfl (by decide) (by decide) ?_
      intro z5 M6 hz5 hM6
      refine xg_if_eq (tgt := 29) dX12_instruct_22 (Eq.refl 25) (by decide) (B01.r hz5) ?_ ?_
      · exact xg_jump (gX12_instruct_29 hl x0 h0 x1 h1 x2 h2 x3 h3 x4 h4 x5 h5 x6 h6 x7 h7 x8 h8 x9 h9 M6 hM6) (xsb_s (xsb_s (xsb_s (xsb_s (xsb_s (xsb_s (xsb_s (xsb_s (xsb_s (xsb_s (xsb_n (xsb_n (xsb_n (xsb_n xsb_0)))))))))))))) (by decide) (by decide)
      · refine xg_iconst dX12_instruct_25 (Eq.refl 26) ?_
        refine xg_goto (tgt := 30) dX12_instruct_26 (by decide) ?_
        exact xg_jump (gX12_instruct_30 hl x0 h0 x1 h1 x2 h2 x3 h3 x4 h4 x5 h5 x6 h6 x7 h7 x8 h8 x9 h9 1 (by decide) M6 hM6) (xsb_s (xsb_s (xsb_s (xsb_s (xsb_s (xsb_s (xsb_s (xsb_s (xsb_s (xsb_s (xsb_n (xsb_n (xsb_n (xsb_n xsb_0)))))))))))))) (by decide) (by decide)
abbrev uX12_amend : xU := (RX12, cX12_amend, 9, (some .int), [], "amend")
theorem bX12_amend : xYV yX12_amend cX12_amend 9 (some .int) 2 := ⟨xq_514, xq_515, xq_5, xq_516, ⟨by decide +kernel, by decide +kernel, by decide +kernel⟩, by decide⟩
theorem gX12_amend_179 {l : Launch} {G : xG} (hl : l.stackTraces = false) (x5 : Int) (h5 : R64 x5) (s0 : Int) (hs0 : R32 s0) (s1 : Int) (hs1 : R32 s1) (s2 : Nat) (hs2 : xAn 1 1550 s2) (M : xM) (hM : xcan M) : Gv l G uX12_amend 4 0 0 0 179 [none, none, none, none, none, some (jv x5), none, none, none] [iv s0, iv s1, .ref s2] M (fX12_amend_179 x5 s0 s1 s2 M) := by
  unfold fX12_amend_179
  refine xg_iadd dX12_amend_179 (Eq.refl 180) ?_
  refine xg_lload dX12_amend_180 (Eq.refl 182) rfl ?_
  refine xg_last hs2 dX12_amend_182 (Eq.refl 183) hM h5 ?_
  intro M1 hM1
  refine xg_iconst dX12_amend_183 (Eq.refl 184) ?_
  exact xg_iret rfl dX12_amend_184 rfl hM1 (by decide)
theorem gX12_amend_156 {l : Launch} {G : xG} (hl : l.stackTraces = false) (x0 : Nat) (h0 : xOb 12 x0) (x1 : Int) (h1 : R32 x1) (x4 : Int) (h4 : B01 x4) (x5 : Int) (h5 : R64 x5) (x7 : Int) (h7 : R32 x7) (s0 : Int) (hs0 : R32 s0) (s1 : Nat) (hs1 : xOb 12 s1) (M : xM) (hM : xcan M) : Gv l G uX12_amend 4 0 0 0 156 [some (.ref x0), some (iv x1), none, none, some (iv x4), some (jv x5), none, some (iv x7), none] [iv s0, .ref s1] M (fX12_amend_156 x0 x1 x4 x5 x7 s0 s1 M) := by
  unfold fX12_amend_156
  refine xg_callV_Z (kc := 0) (ks := 0) (st := []) (mX12_holds hl s1 hs1 s0 hs0 M hM) bX12_holds xcl12 hs1 rfl xq_187 rfl (by decide) rfl (by decide) dX12_amend_156 (Eq.refl 159) rfl (by decide) (by decide) ?_
  intro z1 M2 hz1 hM2
  refine xg_if_eq (tgt := 185) dX12_amend_159 (Eq.refl 162) (by decide) (B01.r hz1) ?_ ?_
  · refine xg_iload dX12_amend_185 (Eq.refl 187) rfl ?_
    refine xg_if_ge (tgt := 194) dX12_amend_187 (Eq.refl 190) (by decide) h7 ?_ ?_
    · refine xg_aload_n dX12_amend_194 (Eq.refl 195) rfl ?_
      refine xg_iload_n dX12_amend_195 (Eq.refl 196) rfl ?_
      refine xg_iload dX12_amend_196 (Eq.refl 198) rfl ?_
      refine xg_callV_I (kc := 0) (ks := 0) (st := []) (mX12_matched hl x0 h0 x1 h1 x7 h7 M2 hM2) bX12_matched xcl12 h0 rfl xq_485 rfl (by decide) rfl (by decide) dX12_amend_198 (Eq.refl 201) rfl (by decide) (by decide) ?_
      intro z3 M4 hz3 hM4
      exact xg_iret rfl dX12_amend_201 rfl hM4 hz3
    · refine xg_iconst dX12_amend_190 (Eq.refl 191) ?_
      refine xg_goto (tgt := 201) dX12_amend_191 (by decide) ?_
      exact xg_iret rfl dX12_amend_201 rfl hM2 (by decide)
  · refine xg_aload_n dX12_amend_162 (Eq.refl 163) rfl ?_
    refine xg_getR (k := 0) xcl12 h0 rfl xq_122 rfl (xt_12_0 h0).1 dX12_amend_163 (Eq.refl 166) ?_
    refine xg_sipush dX12_amend_166 (Eq.refl 169) (by decide +kernel) ?_
    refine xg_iload dX12_amend_169 (Eq.refl 171) rfl ?_
    refine xg_if_eq (tgt := 178) dX12_amend_171 (Eq.refl 174) (by decide) (B01.r h4) ?_ ?_
    · refine xg_iconst dX12_amend_178 (Eq.refl 179) ?_
      exact xg_jump (gX12_amend_179 hl x5 h5 0 (by decide) 410 (by decide) (xr x0 0) (xt_12_0 h0).2 M2 hM2) (xsb_n (xsb_n (xsb_n (xsb_n (xsb_n (xsb_s (xsb_n (xsb_n (xsb_n xsb_0))))))))) (by decide) (by decide)
    · refine xg_iload_n dX12_amend_174 (Eq.refl 175) rfl ?_
      refine xg_goto (tgt := 179) dX12_amend_175 (by decide) ?_
      exact xg_jump (gX12_amend_179 hl x5 h5 x1 h1 410 (by decide) (xr x0 0) (xt_12_0 h0).2 M2 hM2) (xsb_n (xsb_n (xsb_n (xsb_n (xsb_n (xsb_s (xsb_n (xsb_n (xsb_n xsb_0))))))))) (by decide) (by decide)
theorem gX12_amend_151 {l : Launch} {G : xG} (hl : l.stackTraces = false) (x0 : Nat) (h0 : xOb 12 x0) (x1 : Int) (h1 : R32 x1) (x4 : Int) (h4 : B01 x4) (x5 : Int) (h5 : R64 x5) (x7 : Int) (h7 : R32 x7) (s0 : Nat) (hs0 : xOb 12 s0) (M : xM) (hM : xcan M) : Gv l G uX12_amend 4 0 0 0 151 [some (.ref x0), some (iv x1), none, none, some (iv x4), some (jv x5), none, some (iv x7), none] [.ref s0] M (fX12_amend_151 x0 x1 x4 x5 x7 s0 M) := by
  unfold fX12_amend_151
  refine xg_iconst dX12_amend_151 (Eq.refl 152) ?_
  refine xg_goto (tgt := 156) dX12_amend_152 (by decide) ?_
  exact xg_jump (gX12_amend_156 hl x0 h0 x1 h1 x4 h4 x5 h5 x7 h7 3 (by decide) s0 hs0 M hM) (xsb_s (xsb_s (xsb_n (xsb_n (xsb_s (xsb_s (xsb_n (xsb_s (xsb_n xsb_0))))))))) (by decide) (by decide)
theorem gX12_amend_118 {l : Launch} {G : xG} (hl : l.stackTraces = false) (x0 : Nat) (h0 : xOb 12 x0) (x1 : Int) (h1 : R32 x1) (x3 : Int) (h3 : B01 x3) (x4 : Int) (h4 : B01 x4) (x5 : Int) (h5 : R64 x5) (x7 : Int) (h7 : R32 x7) (s0 : Int) (hs0 : B01 s0) (M : xM) (hM : xcan M) : Gv l G uX12_amend 4 0 0 0 118 [some (.ref x0), some (iv x1), none, some (iv x3), some (iv x4), some (jv x5), none, some (iv x7), none] [iv s0] M (fX12_amend_118 x0 x1 x3 x4 x5 x7 s0 M) := by
  unfold fX12_amend_118
  refine xg_istore (ls2 := [some (.ref x0), some (iv x1), none, some (iv x3), some (iv x4), some (jv x5), none, some (iv x7), some (iv s0)]) dX12_amend_118 (Eq.refl 120) (by decide) rfl ?_
  refine xg_aload_n dX12_amend_120 (Eq.refl 121) rfl ?_
  refine xg_aload_n dX12_amend_121 (Eq.refl 122) rfl ?_
  refine xg_iload_n dX12_amend_122 (Eq.refl 123) rfl ?_
  refine xg_callV_Z (kc := 0) (ks := 0) (st := [.ref x0]) (mX12_isInstruction hl x0 h0 x1 h1 M hM) bX12_isInstruction xcl12 h0 rfl xq_517 rfl (by decide) rfl (Nat.le_of_ble_eq_true rfl) dX12_amend_123 (Eq.refl 126) rfl (by decide) (by decide) ?_
  intro z1 M2 hz1 hM2
  refine xg_if_ne (tgt := 133) dX12_amend_126 (Eq.refl 129) (by decide) (B01.r hz1) ?_ ?_
  · refine xg_iconst dX12_amend_129 (Eq.refl 130) ?_
    refine xg_goto (tgt := 156) dX12_amend_130 (by decide) ?_
    exact xg_jump (gX12_amend_156 hl x0 h0 x1 h1 x4 h4 x5 h5 x7 h7 1 (by decide) x0 h0 M2 hM2) (xsb_s (xsb_s (xsb_n (xsb_n (xsb_s (xsb_s (xsb_n (xsb_s (xsb_n xsb_0))))))))) (by decide) (by decide)
  · refine xg_iload_n dX12_amend_133 (Eq.refl 134) rfl ?_
    refine xg_if_ne (tgt := 141) dX12_amend_134 (Eq.refl 137) (by decide) (B01.r h3) ?_ ?_
    · refine xg_iconst dX12_amend_137 (Eq.refl 138) ?_
      refine xg_goto (tgt := 156) dX12_amend_138 (by decide) ?_
      exact xg_jump (gX12_amend_156 hl x0 h0 x1 h1 x4 h4 x5 h5 x7 h7 2 (by decide) x0 h0 M2 hM2) (xsb_s (xsb_s (xsb_n (xsb_n (xsb_s (xsb_s (xsb_n (xsb_s (xsb_n xsb_0))))))))) (by decide) (by decide)
    · refine xg_iload dX12_amend_141 (Eq.refl 143) rfl ?_
      refine xg_if_eq (tgt := 151) dX12_amend_143 (Eq.refl 146) (by decide) (B01.r h4) ?_ ?_
      · exact xg_jump (gX12_amend_151 hl x0 h0 x1 h1 x4 h4 x5 h5 x7 h7 x0 h0 M2 hM2) (xsb_s (xsb_s (xsb_n (xsb_n (xsb_s (xsb_s (xsb_n (xsb_s (xsb_n xsb_0))))))))) (by decide) (by decide)
      · refine xg_iload dX12_amend_146 (Eq.refl 148) rfl ?_
        refine xg_if_eq (tgt := 155) dX12_amend_148 (Eq.refl 151) (by decide) (B01.r hs0) ?_ ?_
        · refine xg_iconst dX12_amend_155 (Eq.refl 156) ?_
          exact xg_jump (gX12_amend_156 hl x0 h0 x1 h1 x4 h4 x5 h5 x7 h7 0 (by decide) x0 h0 M2 hM2) (xsb_s (xsb_s (xsb_n (xsb_n (xsb_s (xsb_s (xsb_n (xsb_s (xsb_n xsb_0))))))))) (by decide) (by decide)
        · exact xg_jump (gX12_amend_151 hl x0 h0 x1 h1 x4 h4 x5 h5 x7 h7 x0 h0 M2 hM2) (xsb_s (xsb_s (xsb_n (xsb_n (xsb_s (xsb_s (xsb_n (xsb_s (xsb_n xsb_0))))))))) (by decide) (by decide)
theorem gX12_amend_117 {l : Launch} {G : xG} (hl : l.stackTraces = false) (x0 : Nat) (h0 : xOb 12 x0) (x1 : Int) (h1 : R32 x1) (x3 : Int) (h3 : B01 x3) (x4 : Int) (h4 : B01 x4) (x5 : Int) (h5 : R64 x5) (x7 : Int) (h7 : R32 x7) (M : xM) (hM : xcan M) : Gv l G uX12_amend 4 0 0 0 117 [some (.ref x0), some (iv x1), none, some (iv x3), some (iv x4), some (jv x5), none, some (iv x7), none] [] M (fX12_amend_117 x0 x1 x3 x4 x5 x7 M) := by
  unfold fX12_amend_117
  refine xg_iconst dX12_amend_117 (Eq.refl 118) ?_
  exact xg_jump (gX12_amend_118 hl x0 h0 x1 h1 x3 h3 x4 h4 x5 h5 x7 h7 0 (by decide) M hM) (xsb_s (xsb_s (xsb_n (xsb_s (xsb_s (xsb_s (xsb_n (xsb_s (xsb_n xsb_0))))))))) (by decide) (by decide)
theorem gX12_amend_93 {l : Launch} {G : xG} (hl : l.stackTraces = false) (x0 : Nat) (h0 : xOb 12 x0) (x1 : Int) (h1 : R32 x1) (x3 : Int) (h3 : B01 x3) (x4 : Int) (h4 : B01 x4) (x5 : Int) (h5 : R64 x5) (x7 : Int) (h7 : R32 x7) (M : xM) (hM : xcan M) : Gv l G uX12_amend 4 0 0 0 93 [some (.ref x0), some (iv x1), none, some (iv x3), some (iv x4), some (jv x5), none, some (iv x7), none] [] M (fX12_amend_93 x0 x1 x3 x4 x5 x7 M) := by
  unfold fX12_amend_93
  refine xg_iload dX12_amend_93 (Eq.refl 95) rfl ?_
  refine xg_if_lt (tgt := 117) dX12_amend_95 (Eq.refl 98) (by decide) h7 ?_ ?_
  · exact xg_jump (gX12_amend_117 hl x0 h0 x1 h1 x3 h3 x4 h4 x5 h5 x7 h7 M hM) (xsb_s (xsb_s (xsb_n (xsb_s (xsb_s (xsb_s (xsb_n (xsb_s (xsb_n xsb_0))))))))) (by decide) (by decide)
  · refine xg_aload_n dX12_amend_98 (Eq.refl 99) rfl ?_
    refine xg_getR (k := 0) xcl12 h0 rfl xq_122 rfl (xt_12_0 h0).1 dX12_amend_99 (Eq.refl 102) ?_
    refine xg_sipush dX12_amend_102 (Eq.refl 105) (by decide +kernel) ?_
    refine xg_laldk (k := 1543) (xt_12_0 h0).2 dX12_amend_105 (Eq.refl 106) rfl (by decide) ?_
    refine xg_ldc2 (z := 20) xq_479 dX12_amend_106 (Eq.refl 109) (by decide +kernel) ?_
    refine xg_lif_ne (tgt := 117) dX12_amend_109 (Eq.refl 110) dX12_amend_110 (Eq.refl 113) (by decide) (hM.aj (xt_12_0 h0).2) (by decide) ?_ ?_
    · refine xg_iconst dX12_amend_113 (Eq.refl 114) ?_
      refine xg_goto (tgt := 118) dX12_amend_114 (by decide) ?_
      exact xg_jump (gX12_amend_118 hl x0 h0 x1 h1 x3 h3 x4 h4 x5 h5 x7 h7 1 (by decide) M hM) (xsb_s (xsb_s (xsb_n (xsb_s (xsb_s (xsb_s (xsb_n (xsb_s (xsb_n xsb_0))))))))) (by decide) (by decide)
    · exact xg_jump (gX12_amend_117 hl x0 h0 x1 h1 x3 h3 x4 h4 x5 h5 x7 h7 M hM) (xsb_s (xsb_s (xsb_n (xsb_s (xsb_s (xsb_s (xsb_n (xsb_s (xsb_n xsb_0))))))))) (by decide) (by decide)
theorem gX12_amend_58 {l : Launch} {G : xG} (hl : l.stackTraces = false) (x0 : Nat) (h0 : xOb 12 x0) (x1 : Int) (h1 : R32 x1) (x2 : Int) (h2 : R32 x2) (x3 : Int) (h3 : B01 x3) (x4 : Int) (h4 : B01 x4) (s0 : Int) (hs0 : R32 s0) (s1 : Int) (hs1 : R32 s1) (s2 : Nat) (hs2 : xAn 1 1550 s2) (M : xM) (hM : xcan M) : Gv l G uX12_amend 4 0 0 0 58 [some (.ref x0), some (iv x1), some (iv x2), some (iv x3), some (iv x4), none, none, none, none] [iv s0, iv s1, .ref s2] M (fX12_amend_58 x0 x1 x2 x3 x4 s0 s1 s2 M) := by
  unfold fX12_amend_58
  refine xg_iadd dX12_amend_58 (Eq.refl 59) ?_
  refine xg_lald hs2 dX12_amend_59 (Eq.refl 60) ?_
  refine xg_lstoreL (P := R64) (ls2 := fun y1 => [some (.ref x0), some (iv x1), some (iv x2), some (iv x3), some (iv x4), some (jv y1), none, none, none]) dX12_amend_60 (Eq.refl 62) (by decide) (hM.aj hs2) (fun _ => rfl) ?_
  intro y1 hy1
  refine xg_iconst dX12_amend_62 (Eq.refl 63) ?_
  refine xg_istore (ls2 := [some (.ref x0), some (iv x1), some (iv x2), some (iv x3), some (iv x4), some (jv y1), none, some (iv (-1)), none]) dX12_amend_63 (Eq.refl 65) (by decide) rfl ?_
  refine xg_iload dX12_amend_65 (Eq.refl 67) rfl ?_
  refine xg_if_eq (tgt := 93) dX12_amend_67 (Eq.refl 70) (by decide) (B01.r h4) ?_ ?_
  · exact xg_jump (gX12_amend_93 hl x0 h0 x1 h1 x3 h3 x4 h4 y1 hy1 (-1) (by decide) M hM) (xsb_s (xsb_s (xsb_n (xsb_s (xsb_s (xsb_s (xsb_n (xsb_s (xsb_n xsb_0))))))))) (by decide) (by decide)
  · refine xg_iload_n dX12_amend_70 (Eq.refl 71) rfl ?_
    refine xg_if_eq (tgt := 93) dX12_amend_71 (Eq.refl 74) (by decide) (B01.r h3) ?_ ?_
    · exact xg_jump (gX12_amend_93 hl x0 h0 x1 h1 x3 h3 x4 h4 y1 hy1 (-1) (by decide) M hM) (xsb_s (xsb_s (xsb_n (xsb_s (xsb_s (xsb_s (xsb_n (xsb_s (xsb_n xsb_0))))))))) (by decide) (by decide)
    · refine xg_aload_n dX12_amend_74 (Eq.refl 75) rfl ?_
      refine xg_getR (k := 0) xcl12 h0 rfl xq_122 rfl (xt_12_0 h0).1 dX12_amend_75 (Eq.refl 78) ?_
      refine xg_sipush dX12_amend_78 (Eq.refl 81) (by decide +kernel) ?_
      refine xg_iload_n dX12_amend_81 (Eq.refl 82) rfl ?_
      refine xg_iadd dX12_amend_82 (Eq.refl 83) ?_
      refine xg_iload_n dX12_amend_83 (Eq.refl 84) rfl ?_
      refine xg_i2l dX12_amend_84 (Eq.refl 85) h2 ?_
      refine xg_last (xt_12_0 h0).2 dX12_amend_85 (Eq.refl 86) hM (R32.j h2) ?_
      intro M2 hM2
      refine xg_aload_n dX12_amend_86 (Eq.refl 87) rfl ?_
      refine xg_iload_n dX12_amend_87 (Eq.refl 88) rfl ?_
      refine xg_callV_I (kc := 0) (ks := 0) (st := []) (mX12_mate hl x0 h0 x1 h1 M2 hM2) bX12_mate xcl12 h0 rfl xq_480 rfl (by decide) rfl (by decide) dX12_amend_88 (Eq.refl 91) rfl (by decide) (by decide) ?_
      intro z3 M4 hz3 hM4
      refine xg_istore (ls2 := [some (.ref x0), some (iv x1), some (iv x2), some (iv x3), some (iv x4), some (jv y1), none, some (iv z3), none]) dX12_amend_91 (Eq.refl 93) (by decide) rfl ?_
      exact xg_jump (gX12_amend_93 hl x0 h0 x1 h1 x3 h3 x4 h4 y1 hy1 z3 hz3 M4 hM4) (xsb_s (xsb_s (xsb_n (xsb_s (xsb_s (xsb_s (xsb_n (xsb_s (xsb_n xsb_0))))))))) (by decide) (by decide)
theorem gX12_amend_39 {l : Launch} {G : xG} (hl : l.stackTraces = false) (x0 : Nat) (h0 : xOb 12 x0) (x1 : Int) (h1 : R32 x1) (x2 : Int) (h2 : R32 x2) (x3 : Int) (h3 : B01 x3) (s0 : Int) (hs0 : B01 s0) (M : xM) (hM : xcan M) : Gv l G uX12_amend 4 0 0 0 39 [some (.ref x0), some (iv x1), some (iv x2), some (iv x3), none, none, none, none, none] [iv s0] M (fX12_amend_39 x0 x1 x2 x3 s0 M) := by
  unfold fX12_amend_39
  refine xg_istore (ls2 := [some (.ref x0), some (iv x1), some (iv x2), some (iv x3), some (iv s0), none, none, none, none]) dX12_amend_39 (Eq.refl 41) (by decide) rfl ?_
  refine xg_aload_n dX12_amend_41 (Eq.refl 42) rfl ?_
  refine xg_getR (k := 0) xcl12 h0 rfl xq_122 rfl (xt_12_0 h0).1 dX12_amend_42 (Eq.refl 45) ?_
  refine xg_sipush dX12_amend_45 (Eq.refl 48) (by decide +kernel) ?_
  refine xg_iload dX12_amend_48 (Eq.refl 50) rfl ?_
  refine xg_if_eq (tgt := 57) dX12_amend_50 (Eq.refl 53) (by decide) (B01.r hs0) ?_ ?_
  · refine xg_iconst dX12_amend_57 (Eq.refl 58) ?_
    exact xg_jump (gX12_amend_58 hl x0 h0 x1 h1 x2 h2 x3 h3 s0 hs0 0 (by decide) 410 (by decide) (xr x0 0) (xt_12_0 h0).2 M hM) (xsb_s (xsb_s (xsb_s (xsb_s (xsb_s (xsb_n (xsb_n (xsb_n (xsb_n xsb_0))))))))) (by decide) (by decide)
  · refine xg_iload_n dX12_amend_53 (Eq.refl 54) rfl ?_
    refine xg_goto (tgt := 58) dX12_amend_54 (by decide) ?_
    exact xg_jump (gX12_amend_58 hl x0 h0 x1 h1 x2 h2 x3 h3 s0 hs0 x1 h1 410 (by decide) (xr x0 0) (xt_12_0 h0).2 M hM) (xsb_s (xsb_s (xsb_s (xsb_s (xsb_s (xsb_n (xsb_n (xsb_n (xsb_n xsb_0))))))))) (by decide) (by decide)
theorem gX12_amend_38 {l : Launch} {G : xG} (hl : l.stackTraces = false) (x0 : Nat) (h0 : xOb 12 x0) (x1 : Int) (h1 : R32 x1) (x2 : Int) (h2 : R32 x2) (x3 : Int) (h3 : B01 x3) (M : xM) (hM : xcan M) : Gv l G uX12_amend 4 0 0 0 38 [some (.ref x0), some (iv x1), some (iv x2), some (iv x3), none, none, none, none, none] [] M (fX12_amend_38 x0 x1 x2 x3 M) := by
  unfold fX12_amend_38
  refine xg_iconst dX12_amend_38 (Eq.refl 39) ?_
  exact xg_jump (gX12_amend_39 hl x0 h0 x1 h1 x2 h2 x3 h3 0 (by decide) M hM) (xsb_s (xsb_s (xsb_s (xsb_s (xsb_n (xsb_n (xsb_n (xsb_n (xsb_n xsb_0))))))))) (by decide) (by decide)
theorem mX12_amend {l : Launch} {G : xG} (hl : l.stackTraces = false) (x0 : Nat) (h0 : xOb 12 x0) (x1 : Int) (h1 : R32 x1) (x2 : Int) (h2 : R32 x2) (M : xM) (hM : xcan M) : Cm l G yX12_amend cX12_amend 9 (some .int) 4 0 0 0 [.ref x0, iv x1, iv x2] M (fX12_amend x0 x1 x2 M) := by
  refine xcm_of (u := uX12_amend) (ls := [some (.ref x0), some (iv x1), some (iv x2), none, none, none, none, none, none]) 6 hl rfl (by decide +kernel) (Nat.le_of_ble_eq_true rfl) rfl ?_
  unfold fX12_amend
  refine xg_aload_n dX12_amend_0 (Eq.refl 1) rfl ?_
  refine xg_iload_n dX12_amend_1 (Eq.refl 2) rfl ?_
  refine xg_i2l dX12_amend_2 (Eq.refl 3) h2 ?_
  refine xg_lconst (z := 0) dX12_amend_3 (Eq.refl 4) rfl ?_
  refine xg_ldc2 (z := 100000000) xq_476 dX12_amend_4 (Eq.refl 7) (by decide +kernel) ?_
  refine xg_callV_Z (kc := 0) (ks := 0) (st := []) (mX12_in hl x0 h0 x2 (R32.j h2) 0 (by decide) 100000000 (by decide) M hM) bX12_in xcl12 h0 rfl xq_179 rfl (by decide) rfl (by decide) dX12_amend_7 (Eq.refl 10) rfl (by decide) (by decide) ?_
  intro z1 M2 hz1 hM2
  refine xg_istore_n (ls2 := [some (.ref x0), some (iv x1), some (iv x2), some (iv z1), none, none, none, none, none]) dX12_amend_10 (Eq.refl 11) (by decide) rfl ?_
  refine xg_aload_n dX12_amend_11 (Eq.refl 12) rfl ?_
  refine xg_iload_n dX12_amend_12 (Eq.refl 13) rfl ?_
  refine xg_callV_Z (kc := 0) (ks := 0) (st := []) (mX12_isInstruction hl x0 h0 x1 h1 M2 hM2) bX12_isInstruction xcl12 h0 rfl xq_517 rfl (by decide) rfl (by decide) dX12_amend_13 (Eq.refl 16) rfl (by decide) (by decide) ?_
  intro z3 M4 hz3 hM4
  refine xg_if_eq (tgt := 38) dX12_amend_16 (Eq.refl 19) (by decide) (B01.r hz3) ?_ ?_
  · exact xg_jump (gX12_amend_38 hl x0 h0 x1 h1 x2 h2 z1 hz1 M4 hM4) (xsb_s (xsb_s (xsb_s (xsb_s (xsb_n (xsb_n (xsb_n (xsb_n (xsb_n xsb_0))))))))) (by decide) (by decide)
  · refine xg_aload_n dX12_amend_19 (Eq.refl 20) rfl ?_
    refine xg_getR (k := 0) xcl12 h0 rfl xq_122 rfl (xt_12_0 h0).1 dX12_amend_20 (Eq.refl 23) ?_
    refine xg_sipush dX12_amend_23 (Eq.refl 26) (by decide +kernel) ?_
    refine xg_iload_n dX12_amend_26 (Eq.refl 27) rfl ?_
    refine xg_iadd dX12_amend_27 (Eq.refl 28) ?_
    refine xg_lald (xt_12_0 h0).2 dX12_amend_28 (Eq.refl 29) ?_
    refine xg_lconst (z := 0) dX12_amend_29 (Eq.refl 30) rfl ?_
    refine xg_lif_ne (tgt := 38) dX12_amend_30 (Eq.refl 31) dX12_amend_31 (Eq.refl 34) (by decide) (hM4.aj (xt_12_0 h0).2) (by decide) ?_ ?_
    · refine xg_iconst dX12_amend_34 (Eq.refl 35) ?_
      refine xg_goto (tgt := 39) dX12_amend_35 (by decide) ?_
      exact xg_jump (gX12_amend_39 hl x0 h0 x1 h1 x2 h2 z1 hz1 1 (by decide) M4 hM4) (xsb_s (xsb_s (xsb_s (xsb_s (xsb_n (xsb_n (xsb_n (xsb_n (xsb_n xsb_0))))))))) (by decide) (by decide)
    · exact xg_jump (gX12_amend_38 hl x0 h0 x1 h1 x2 h2 z1 hz1 M4 hM4) (xsb_s (xsb_s (xsb_s (xsb_s (xsb_n (xsb_n (xsb_n (xsb_n (xsb_n xsb_0))))))))) (by decide) (by decide)
abbrev uX12_over : xU := (RX12, cX12_over, 6, none, [], "over")
theorem bX12_over : xYV yX12_over cX12_over 6 none 2 := ⟨xq_567, xq_568, xq_5, xq_569, ⟨by decide +kernel, by decide +kernel, by decide +kernel⟩, by decide⟩
theorem gX12_over_205 {l : Launch} {G : xG} (hl : l.stackTraces = false) (rc70 : Int → Int → xM → xO) (x0 : Nat) (h0 : xOb 12 x0) (x1 : Int) (h1 : R32 x1) (x2 : Int) (h2 : R32 x2) (x4 : Int) (h4 : R32 x4) (s0 : Int) (hs0 : B01 s0) (s1 : Int) (hs1 : R32 s1) (hr70 : ∀ w3 : Int, R32 w3 → ∀ w4 : Int, R32 w4 → ∀ M : xM, xcan M → Gv l G uX12_over 3 3 0 0 70 [some (.ref x0), some (iv x1), some (iv x2), some (iv w3), some (iv w4), none] [] M (rc70 w3 w4 M)) (M : xM) (hM : xcan M) : Gv l G uX12_over 3 3 0 0 205 [some (.ref x0), some (iv x1), some (iv x2), none, some (iv x4), none] [iv s0, iv s1] M (fX12_over_205 rc70 x0 x1 x2 x4 s0 s1 M) := by
  unfold fX12_over_205
  refine xg_iadd dX12_over_205 (Eq.refl 206) ?_
  refine xg_istore_nL (P := R32) (ls2 := fun y1 => [some (.ref x0), some (iv x1), some (iv x2), some (iv y1), some (iv x4), none]) dX12_over_206 (Eq.refl 207) (by decide) (w32_r _) (fun _ => rfl) ?_
  intro y1 hy1
  refine xg_iinc (ls2 := [some (.ref x0), some (iv x1), some (iv x2), some (iv y1), some (iv (w32 (x4 + 1))), none]) dX12_over_207 (Eq.refl 210) rfl (by decide) rfl ?_
  refine xg_goto (tgt := 70) dX12_over_210 (by decide) ?_
  exact xg_jump (hr70 y1 hy1 (w32 (x4 + 1)) (w32_r _) M hM) (xsb_s (xsb_s (xsb_s (xsb_s (xsb_s (xsb_n xsb_0)))))) (by decide) (by decide)
theorem gX12_over_129 {l : Launch} {G : xG} (hl : l.stackTraces = false) (rc70 : Int → Int → xM → xO) (x0 : Nat) (h0 : xOb 12 x0) (x1 : Int) (h1 : R32 x1) (x2 : Int) (h2 : R32 x2) (x3 : Int) (h3 : R32 x3) (x4 : Int) (h4 : R32 x4) (s0 : Int) (hs0 : B01 s0) (hr70 : ∀ w3 : Int, R32 w3 → ∀ w4 : Int, R32 w4 → ∀ M : xM, xcan M → Gv l G uX12_over 3 3 0 0 70 [some (.ref x0), some (iv x1), some (iv x2), some (iv w3), some (iv w4), none] [] M (rc70 w3 w4 M)) (M : xM) (hM : xcan M) : Gv l G uX12_over 3 3 0 0 129 [some (.ref x0), some (iv x1), some (iv x2), some (iv x3), some (iv x4), none] [iv s0] M (fX12_over_129 rc70 x0 x1 x2 x3 x4 s0 M) := by
  unfold fX12_over_129
  refine xg_istore (ls2 := [some (.ref x0), some (iv x1), some (iv x2), some (iv x3), some (iv x4), some (iv s0)]) dX12_over_129 (Eq.refl 131) (by decide) rfl ?_
  refine xg_aload_n dX12_over_131 (Eq.refl 132) rfl ?_
  refine xg_getR (k := 0) xcl12 h0 rfl xq_122 rfl (xt_12_0 h0).1 dX12_over_132 (Eq.refl 135) ?_
  refine xg_sipush dX12_over_135 (Eq.refl 138) (by decide +kernel) ?_
  refine xg_iload_n dX12_over_138 (Eq.refl 139) rfl ?_
  refine xg_iadd dX12_over_139 (Eq.refl 140) ?_
  refine xg_aload_n dX12_over_140 (Eq.refl 141) rfl ?_
  refine xg_getR (k := 0) xcl12 h0 rfl xq_122 rfl (xt_12_0 h0).1 dX12_over_141 (Eq.refl 144) ?_
  refine xg_sipush dX12_over_144 (Eq.refl 147) (by decide +kernel) ?_
  refine xg_iload dX12_over_147 (Eq.refl 149) rfl ?_
  refine xg_iadd dX12_over_149 (Eq.refl 150) ?_
  refine xg_lald (xt_12_0 h0).2 dX12_over_150 (Eq.refl 151) ?_
  refine xg_last (xt_12_0 h0).2 dX12_over_151 (Eq.refl 152) hM (hM.aj (xt_12_0 h0).2) ?_
  intro M1 hM1
  refine xg_aload_n dX12_over_152 (Eq.refl 153) rfl ?_
  refine xg_getR (k := 0) xcl12 h0 rfl xq_122 rfl (xt_12_0 h0).1 dX12_over_153 (Eq.refl 156) ?_
  refine xg_sipush dX12_over_156 (Eq.refl 159) (by decide +kernel) ?_
  refine xg_iload_n dX12_over_159 (Eq.refl 160) rfl ?_
  refine xg_iadd dX12_over_160 (Eq.refl 161) ?_
  refine xg_aload_n dX12_over_161 (Eq.refl 162) rfl ?_
  refine xg_getR (k := 0) xcl12 h0 rfl xq_122 rfl (xt_12_0 h0).1 dX12_over_162 (Eq.refl 165) ?_
  refine xg_sipush dX12_over_165 (Eq.refl 168) (by decide +kernel) ?_
  refine xg_iload dX12_over_168 (Eq.refl 170) rfl ?_
  refine xg_iadd dX12_over_170 (Eq.refl 171) ?_
  refine xg_lald (xt_12_0 h0).2 dX12_over_171 (Eq.refl 172) ?_
  refine xg_last (xt_12_0 h0).2 dX12_over_172 (Eq.refl 173) hM1 (hM1.aj (xt_12_0 h0).2) ?_
  intro M2 hM2
  refine xg_aload_n dX12_over_173 (Eq.refl 174) rfl ?_
  refine xg_getR (k := 0) xcl12 h0 rfl xq_122 rfl (xt_12_0 h0).1 dX12_over_174 (Eq.refl 177) ?_
  refine xg_sipush dX12_over_177 (Eq.refl 180) (by decide +kernel) ?_
  refine xg_iload_n dX12_over_180 (Eq.refl 181) rfl ?_
  refine xg_iadd dX12_over_181 (Eq.refl 182) ?_
  refine xg_aload_n dX12_over_182 (Eq.refl 183) rfl ?_
  refine xg_getR (k := 0) xcl12 h0 rfl xq_122 rfl (xt_12_0 h0).1 dX12_over_183 (Eq.refl 186) ?_
  refine xg_sipush dX12_over_186 (Eq.refl 189) (by decide +kernel) ?_
  refine xg_iload dX12_over_189 (Eq.refl 191) rfl ?_
  refine xg_iadd dX12_over_191 (Eq.refl 192) ?_
  refine xg_lald (xt_12_0 h0).2 dX12_over_192 (Eq.refl 193) ?_
  refine xg_last (xt_12_0 h0).2 dX12_over_193 (Eq.refl 194) hM2 (hM2.aj (xt_12_0 h0).2) ?_
  intro M3 hM3
  refine xg_iload_n dX12_over_194 (Eq.refl 195) rfl ?_
  refine xg_iload dX12_over_195 (Eq.refl 197) rfl ?_
  refine xg_if_eq (tgt := 204) dX12_over_197 (Eq.refl 200) (by decide) (B01.r hs0) ?_ ?_
  · refine xg_iconst dX12_over_204 (Eq.refl 205) ?_
    exact xg_jump (gX12_over_205 hl rc70 x0 h0 x1 h1 x2 h2 x4 h4 1 (by decide) x3 h3 hr70 M3 hM3) (xsb_s (xsb_s (xsb_s (xsb_n (xsb_s (xsb_n xsb_0)))))) (by decide) (by decide)
  · refine xg_iconst dX12_over_200 (Eq.refl 201) ?_
    refine xg_goto (tgt := 205) dX12_over_201 (by decide) ?_
    exact xg_jump (gX12_over_205 hl rc70 x0 h0 x1 h1 x2 h2 x4 h4 0 (by decide) x3 h3 hr70 M3 hM3) (xsb_s (xsb_s (xsb_s (xsb_n (xsb_s (xsb_n xsb_0)))))) (by decide) (by decide)
theorem gX12_over_128 {l : Launch} {G : xG} (hl : l.stackTraces = false) (rc70 : Int → Int → xM → xO) (x0 : Nat) (h0 : xOb 12 x0) (x1 : Int) (h1 : R32 x1) (x2 : Int) (h2 : R32 x2) (x3 : Int) (h3 : R32 x3) (x4 : Int) (h4 : R32 x4) (hr70 : ∀ w3 : Int, R32 w3 → ∀ w4 : Int, R32 w4 → ∀ M : xM, xcan M → Gv l G uX12_over 3 3 0 0 70 [some (.ref x0), some (iv x1), some (iv x2), some (iv w3), some (iv w4), none] [] M (rc70 w3 w4 M)) (M : xM) (hM : xcan M) : Gv l G uX12_over 3 3 0 0 128 [some (.ref x0), some (iv x1), some (iv x2), some (iv x3), some (iv x4), none] [] M (fX12_over_128 rc70 x0 x1 x2 x3 x4 M) := by
  unfold fX12_over_128
  refine xg_iconst dX12_over_128 (Eq.refl 129) ?_
  exact xg_jump (gX12_over_129 hl rc70 x0 h0 x1 h1 x2 h2 x3 h3 x4 h4 0 (by decide) hr70 M hM) (xsb_s (xsb_s (xsb_s (xsb_s (xsb_s (xsb_n xsb_0)))))) (by decide) (by decide)
theorem gX12_over_124 {l : Launch} {G : xG} (hl : l.stackTraces = false) (rc70 : Int → Int → xM → xO) (x0 : Nat) (h0 : xOb 12 x0) (x1 : Int) (h1 : R32 x1) (x2 : Int) (h2 : R32 x2) (x3 : Int) (h3 : R32 x3) (x4 : Int) (h4 : R32 x4) (hr70 : ∀ w3 : Int, R32 w3 → ∀ w4 : Int, R32 w4 → ∀ M : xM, xcan M → Gv l G uX12_over 3 3 0 0 70 [some (.ref x0), some (iv x1), some (iv x2), some (iv w3), some (iv w4), none] [] M (rc70 w3 w4 M)) (M : xM) (hM : xcan M) : Gv l G uX12_over 3 3 0 0 124 [some (.ref x0), some (iv x1), some (iv x2), some (iv x3), some (iv x4), none] [] M (fX12_over_124 rc70 x0 x1 x2 x3 x4 M) := by
  unfold fX12_over_124
  refine xg_iconst dX12_over_124 (Eq.refl 125) ?_
  refine xg_goto (tgt := 129) dX12_over_125 (by decide) ?_
  exact xg_jump (gX12_over_129 hl rc70 x0 h0 x1 h1 x2 h2 x3 h3 x4 h4 1 (by decide) hr70 M hM) (xsb_s (xsb_s (xsb_s (xsb_s (xsb_s (xsb_n xsb_0)))))) (by decide) (by decide)
theorem gX12_over_70 {l : Launch} {G : xG} (hl : l.stackTraces = false) (x0 : Nat) (h0 : xOb 12 x0) (x1 : Int) (h1 : R32 x1) (x2 : Int) (h2 : R32 x2) : ∀ (n : Nat) (x3 : Int) (_ : R32 x3) (x4 : Int) (_ : R32 x4) (M : xM) (_ : xcan M), Gv l G uX12_over 3 3 0 0 70 [some (.ref x0), some (iv x1), some (iv x2), some (iv x3), some (iv x4), none] [] M (fX12_over_70 x0 x1 x2 n x3 x4 M) := by
  intro n; induction n with
  | zero => intro x3 h3 x4 h4 M hM; exact xg_none
  | succ n ih =>
    intro x3 h3 x4 h4 M hM
    rw [fX12_over_70]
    refine xg_iload dX12_over_70 (Eq.refl 72) rfl ?_
    refine xg_i2l dX12_over_72 (Eq.refl 73) h4 ?_
    refine xg_aload_n dX12_over_73 (Eq.refl 74) rfl ?_
    refine xg_getR (k := 0) xcl12 h0 rfl xq_122 rfl (xt_12_0 h0).1 dX12_over_74 (Eq.refl 77) ?_
    refine xg_sipush dX12_over_77 (Eq.refl 80) (by decide +kernel) ?_
    refine xg_laldk (k := 1544) (xt_12_0 h0).2 dX12_over_80 (Eq.refl 81) rfl (by decide) ?_
    refine xg_lif_ge (tgt := 213) dX12_over_81 (Eq.refl 82) dX12_over_82 (Eq.refl 85) (by decide) (R32.j h4) (hM.aj (xt_12_0 h0).2) ?_ ?_
    · refine xg_aload_n dX12_over_213 (Eq.refl 214) rfl ?_
      refine xg_getR (k := 0) xcl12 h0 rfl xq_122 rfl (xt_12_0 h0).1 dX12_over_214 (Eq.refl 217) ?_
      refine xg_sipush dX12_over_217 (Eq.refl 220) (by decide +kernel) ?_
      refine xg_iload_n dX12_over_220 (Eq.refl 221) rfl ?_
      refine xg_i2l dX12_over_221 (Eq.refl 222) h3 ?_
      refine xg_lastk (k := 1544) (xt_12_0 h0).2 dX12_over_222 (Eq.refl 223) rfl (by decide) hM (R32.j h3) ?_
      intro M1 hM1
      exact xg_vret rfl dX12_over_223 rfl hM1
    · refine xg_iload_n dX12_over_85 (Eq.refl 86) rfl ?_
      refine xg_iconst dX12_over_86 (Eq.refl 87) ?_
      refine xg_icmp_ne (tgt := 128) dX12_over_87 (Eq.refl 90) (by decide) h2 (by decide) ?_ ?_
      · refine xg_aload_n dX12_over_90 (Eq.refl 91) rfl ?_
        refine xg_getR (k := 0) xcl12 h0 rfl xq_122 rfl (xt_12_0 h0).1 dX12_over_91 (Eq.refl 94) ?_
        refine xg_sipush dX12_over_94 (Eq.refl 97) (by decide +kernel) ?_
        refine xg_iload dX12_over_97 (Eq.refl 99) rfl ?_
        refine xg_iadd dX12_over_99 (Eq.refl 100) ?_
        refine xg_lald (xt_12_0 h0).2 dX12_over_100 (Eq.refl 101) ?_
        refine xg_iload_n dX12_over_101 (Eq.refl 102) rfl ?_
        refine xg_i2l dX12_over_102 (Eq.refl 103) h1 ?_
        refine xg_lif_eq (tgt := 124) dX12_over_103 (Eq.refl 104) dX12_over_104 (Eq.refl 107) (by decide) (hM.aj (xt_12_0 h0).2) (R32.j h1) ?_ ?_
        · exact xg_jump (gX12_over_124 hl (fX12_over_70 x0 x1 x2 n) x0 h0 x1 h1 x2 h2 x3 h3 x4 h4 ih M hM) (xsb_s (xsb_s (xsb_s (xsb_s (xsb_s (xsb_n xsb_0)))))) (by decide) (by decide)
        · refine xg_aload_n dX12_over_107 (Eq.refl 108) rfl ?_
          refine xg_getR (k := 0) xcl12 h0 rfl xq_122 rfl (xt_12_0 h0).1 dX12_over_108 (Eq.refl 111) ?_
          refine xg_sipush dX12_over_111 (Eq.refl 114) (by decide +kernel) ?_
          refine xg_iload dX12_over_114 (Eq.refl 116) rfl ?_
          refine xg_iadd dX12_over_116 (Eq.refl 117) ?_
          refine xg_lald (xt_12_0 h0).2 dX12_over_117 (Eq.refl 118) ?_
          refine xg_iload_n dX12_over_118 (Eq.refl 119) rfl ?_
          refine xg_i2l dX12_over_119 (Eq.refl 120) h1 ?_
          refine xg_lif_ne (tgt := 128) dX12_over_120 (Eq.refl 121) dX12_over_121 (Eq.refl 124) (by decide) (hM.aj (xt_12_0 h0).2) (R32.j h1) ?_ ?_
          · exact xg_jump (gX12_over_124 hl (fX12_over_70 x0 x1 x2 n) x0 h0 x1 h1 x2 h2 x3 h3 x4 h4 ih M hM) (xsb_s (xsb_s (xsb_s (xsb_s (xsb_s (xsb_n xsb_0)))))) (by decide) (by decide)
          · exact xg_jump (gX12_over_128 hl (fX12_over_70 x0 x1 x2 n) x0 h0 x1 h1 x2 h2 x3 h3 x4 h4 ih M hM) (xsb_s (xsb_s (xsb_s (xsb_s (xsb_s (xsb_n xsb_0)))))) (by decide) (by decide)
      · exact xg_jump (gX12_over_128 hl (fX12_over_70 x0 x1 x2 n) x0 h0 x1 h1 x2 h2 x3 h3 x4 h4 ih M hM) (xsb_s (xsb_s (xsb_s (xsb_s (xsb_s (xsb_n xsb_0)))))) (by decide) (by decide)
theorem mX12_over {l : Launch} {G : xG} (hl : l.stackTraces = false) (x0 : Nat) (h0 : xOb 12 x0) (x1 : Int) (h1 : R32 x1) (x2 : Int) (h2 : R32 x2) (M : xM) (hM : xcan M) : Cm l G yX12_over cX12_over 6 none 3 3 0 0 [.ref x0, iv x1, iv x2] M (fX12_over x0 x1 x2 M) := by
  refine xcm_of (u := uX12_over) (ls := [some (.ref x0), some (iv x1), some (iv x2), none, none, none]) 3 hl rfl (by decide +kernel) (Nat.le_of_ble_eq_true rfl) rfl ?_
  unfold fX12_over
  refine xg_aload_n dX12_over_0 (Eq.refl 1) rfl ?_
  refine xg_getR (k := 0) xcl12 h0 rfl xq_122 rfl (xt_12_0 h0).1 dX12_over_1 (Eq.refl 4) ?_
  refine xg_sipush dX12_over_4 (Eq.refl 7) (by decide +kernel) ?_
  refine xg_iload_n dX12_over_7 (Eq.refl 8) rfl ?_
  refine xg_iadd dX12_over_8 (Eq.refl 9) ?_
  refine xg_iload_n dX12_over_9 (Eq.refl 10) rfl ?_
  refine xg_i2l dX12_over_10 (Eq.refl 11) h2 ?_
  refine xg_last (xt_12_0 h0).2 dX12_over_11 (Eq.refl 12) hM (R32.j h2) ?_
  intro M1 hM1
  refine xg_aload_n dX12_over_12 (Eq.refl 13) rfl ?_
  refine xg_getR (k := 0) xcl12 h0 rfl xq_122 rfl (xt_12_0 h0).1 dX12_over_13 (Eq.refl 16) ?_
  refine xg_sipush dX12_over_16 (Eq.refl 19) (by decide +kernel) ?_
  refine xg_aload_n dX12_over_19 (Eq.refl 20) rfl ?_
  refine xg_getR (k := 0) xcl12 h0 rfl xq_122 rfl (xt_12_0 h0).1 dX12_over_20 (Eq.refl 23) ?_
  refine xg_sipush dX12_over_23 (Eq.refl 26) (by decide +kernel) ?_
  refine xg_iload_n dX12_over_26 (Eq.refl 27) rfl ?_
  refine xg_iadd dX12_over_27 (Eq.refl 28) ?_
  refine xg_lald (xt_12_0 h0).2 dX12_over_28 (Eq.refl 29) ?_
  refine xg_l2i dX12_over_29 (Eq.refl 30) ?_
  refine xg_iadd dX12_over_30 (Eq.refl 31) ?_
  refine xg_iconst dX12_over_31 (Eq.refl 32) ?_
  refine xg_iload_n dX12_over_32 (Eq.refl 33) rfl ?_
  refine xg_iadd dX12_over_33 (Eq.refl 34) ?_
  refine xg_i2l dX12_over_34 (Eq.refl 35) (w32_r _) ?_
  refine xg_last (xt_12_0 h0).2 dX12_over_35 (Eq.refl 36) hM1 (R32.j (w32_r _)) ?_
  intro M2 hM2
  refine xg_aload_n dX12_over_36 (Eq.refl 37) rfl ?_
  refine xg_getR (k := 0) xcl12 h0 rfl xq_122 rfl (xt_12_0 h0).1 dX12_over_37 (Eq.refl 40) ?_
  refine xg_sipush dX12_over_40 (Eq.refl 43) (by decide +kernel) ?_
  refine xg_aload_n dX12_over_43 (Eq.refl 44) rfl ?_
  refine xg_getR (k := 0) xcl12 h0 rfl xq_122 rfl (xt_12_0 h0).1 dX12_over_44 (Eq.refl 47) ?_
  refine xg_sipush dX12_over_47 (Eq.refl 50) (by decide +kernel) ?_
  refine xg_iload_n dX12_over_50 (Eq.refl 51) rfl ?_
  refine xg_iadd dX12_over_51 (Eq.refl 52) ?_
  refine xg_lald (xt_12_0 h0).2 dX12_over_52 (Eq.refl 53) ?_
  refine xg_l2i dX12_over_53 (Eq.refl 54) ?_
  refine xg_iadd dX12_over_54 (Eq.refl 55) ?_
  refine xg_iconst dX12_over_55 (Eq.refl 56) ?_
  refine xg_iload_n dX12_over_56 (Eq.refl 57) rfl ?_
  refine xg_iadd dX12_over_57 (Eq.refl 58) ?_
  refine xg_i2l dX12_over_58 (Eq.refl 59) (w32_r _) ?_
  refine xg_last (xt_12_0 h0).2 dX12_over_59 (Eq.refl 60) hM2 (R32.j (w32_r _)) ?_
  intro M3 hM3
  refine xg_aload_n dX12_over_60 (Eq.refl 61) rfl ?_
  refine xg_iload_n dX12_over_61 (Eq.refl 62) rfl ?_
  refine xg_callV_N (kc := 0) (ks := 0) (st := []) (mX12_tell hl x0 h0 x1 h1 M3 hM3) bX12_tell xcl12 h0 rfl xq_489 rfl (by decide) rfl (by decide) dX12_over_62 (Eq.refl 65) rfl (by decide) (by decide) ?_
  intro z4 M5 hz4 hM5
  refine xg_iconst dX12_over_65 (Eq.refl 66) ?_
  refine xg_istore_n (ls2 := [some (.ref x0), some (iv x1), some (iv x2), some (iv 0), none, none]) dX12_over_66 (Eq.refl 67) (by decide) rfl ?_
  refine xg_iconst dX12_over_67 (Eq.refl 68) ?_
  refine xg_istore (ls2 := [some (.ref x0), some (iv x1), some (iv x2), some (iv 0), some (iv 0), none]) dX12_over_68 (Eq.refl 70) (by decide) rfl ?_
  exact xg_jump (gX12_over_70 hl x0 h0 x1 h1 x2 h2 xN 0 (by decide) 0 (by decide) M5 hM5) (xsb_s (xsb_s (xsb_s (xsb_s (xsb_s (xsb_n xsb_0)))))) (by decide) (by decide)
