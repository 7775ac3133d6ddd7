theorem bX0_init : xYI yX0_init cX0_init 1 0 := ⟨xq_69, xq_55, xq_70, ⟨by decide +kernel, by decide +kernel, by decide +kernel⟩, by decide, rfl⟩
abbrev uX0_init : xU := (RX0, cX0_init, 1, none, [], "<init>")
theorem mX0_init {l : Launch} {G : xG} (hl : l.stackTraces = false) (σ : xS) (c : Nat) (hlt : c < σ.1.1) (hc : σ.1.2.1 c = .inl 0) (hN : σ.1.1 + 4 < xSCR) : Kt l G yX0_init cX0_init 1 1 3 52 [.ref c] σ (k0 c σ) := by
  refine kt_of (u := uX0_init) (ls := [some (.ref c)]) 0 hl rfl (by decide +kernel) (Nat.le_of_ble_eq_true rfl) rfl ?_
  refine kx_aload dX0_init_0 (Eq.refl 1) rfl ?_
  refine kx_obj xq_71 xq_9 xq_10 dX0_init_1 (Eq.refl 4) (by decide) ?_
  refine kx_aload dX0_init_4 (Eq.refl 5) rfl ?_
  refine kx_iconst dX0_init_5 (Eq.refl 6) ?_
  refine kx_putI (k := 1) xcl0 (((kfr.rf (A := (· = c)) (Nat.le_refl _)).2.2.1 c hlt).trans hc) rfl xq_72 rfl (by decide +kernel) dX0_init_6 (Eq.refl 9) rfl ?_
  refine kx_aload dX0_init_9 (Eq.refl 10) rfl ?_
  refine kx_iconst dX0_init_10 (Eq.refl 11) ?_
  refine kx_newa_l (n := 4) (kc := 2) (ks := 48) xq_51 dX0_init_11 (Eq.refl 13) (by decide) (by show σ.1.1 + 0 + 1 < xSCR; omega) (by decide) (by decide) (xok_c (show xokv _ (.ref c) from Or.inl (show c < σ.1.1 + 0 by omega)) xok_nil) (xol_s (show xokv _ (.ref c) from Or.inl (show c < σ.1.1 + 0 by omega)) xol_nil) ?_
  refine kx_ref (k := 9) (ty := .array .long) xcl0 (((kfr.new (kfr.put (kfr.rf (A := (· = c)) (Nat.le_refl _)))).2.2.1 c hlt).trans hc) rfl xq_73 rfl (by decide +kernel) (Or.inr ⟨_, rfl⟩) dX0_init_13 (Eq.refl 16) rfl rfl rfl (Nat.lt_succ_self _) ?_
  refine kx_aload dX0_init_16 (Eq.refl 17) rfl ?_
  refine kx_iconst dX0_init_17 (Eq.refl 18) ?_
  refine kx_newa_l (n := 4) (kc := 1) (ks := 44) xq_51 dX0_init_18 (Eq.refl 20) (by decide) (by show σ.1.1 + 1 + 1 < xSCR; omega) (by decide) (by decide) (xok_c (show xokv _ (.ref c) from Or.inl (show c < σ.1.1 + 1 by omega)) xok_nil) (xol_s (show xokv _ (.ref c) from Or.inl (show c < σ.1.1 + 1 by omega)) xol_nil) ?_
  refine kx_ref (k := 10) (ty := .array .long) xcl0 (((kfr.new (kfr.ref (kfr.new (kfr.put (kfr.rf (A := (· = c)) (Nat.le_refl _)))) (Or.inr rfl))).2.2.1 c hlt).trans hc) rfl xq_74 rfl (by decide +kernel) (Or.inr ⟨_, rfl⟩) dX0_init_20 (Eq.refl 23) rfl rfl rfl (Nat.lt_succ_self _) ?_
  refine kx_aload dX0_init_23 (Eq.refl 24) rfl ?_
  refine kx_bipush dX0_init_24 (Eq.refl 26) (by decide +kernel) ?_
  refine kx_newa_l (n := 44) (kc := 0) (ks := 0) xq_51 dX0_init_26 (Eq.refl 28) (by decide) (by show σ.1.1 + 2 + 1 < xSCR; omega) (by decide) (by decide) (xok_c (show xokv _ (.ref c) from Or.inl (show c < σ.1.1 + 2 by omega)) xok_nil) (xol_s (show xokv _ (.ref c) from Or.inl (show c < σ.1.1 + 2 by omega)) xol_nil) ?_
  refine kx_ref (k := 11) (ty := .array .long) xcl0 (((kfr.new (kfr.ref (kfr.new (kfr.ref (kfr.new (kfr.put (kfr.rf (A := (· = c)) (Nat.le_refl _)))) (Or.inr rfl))) (Or.inr rfl))).2.2.1 c hlt).trans hc) rfl xq_75 rfl (by decide +kernel) (Or.inr ⟨_, rfl⟩) dX0_init_28 (Eq.refl 31) rfl rfl rfl (Nat.lt_succ_self _) ?_
  exact kx_vret rfl dX0_init_31 rfl
theorem bX4_init : xYI yX4_init cX4_init 1 0 := ⟨xq_96, xq_67, xq_97, ⟨by decide +kernel, by decide +kernel, by decide +kernel⟩, by decide, rfl⟩
abbrev uX4_init : xU := (RX4, cX4_init, 1, none, [], "<init>")
theorem mX4_init {l : Launch} {G : xG} (hl : l.stackTraces = false) (σ : xS) (c : Nat) (hlt : c < σ.1.1) (hc : σ.1.2.1 c = .inl 4) (hN : σ.1.1 + 4 < xSCR) : Kt l G yX4_init cX4_init 1 1 3 40 [.ref c] σ (k4 c σ) := by
  refine kt_of (u := uX4_init) (ls := [some (.ref c)]) 0 hl rfl (by decide +kernel) (Nat.le_of_ble_eq_true rfl) rfl ?_
  refine kx_aload dX4_init_0 (Eq.refl 1) rfl ?_
  refine kx_obj xq_98 xq_9 xq_10 dX4_init_1 (Eq.refl 4) (by decide) ?_
  refine kx_aload dX4_init_4 (Eq.refl 5) rfl ?_
  refine kx_bipush dX4_init_5 (Eq.refl 7) (by decide +kernel) ?_
  refine kx_newa_l (n := 10) (kc := 2) (ks := 30) xq_51 dX4_init_7 (Eq.refl 9) (by decide) (by show σ.1.1 + 0 + 1 < xSCR; omega) (by decide) (by decide) (xok_c (show xokv _ (.ref c) from Or.inl (show c < σ.1.1 + 0 by omega)) xok_nil) (xol_s (show xokv _ (.ref c) from Or.inl (show c < σ.1.1 + 0 by omega)) xol_nil) ?_
  refine kx_ref (k := 10) (ty := .array .long) xcl4 (((kfr.new (kfr.rf (A := (· = c)) (Nat.le_refl _))).2.2.1 c hlt).trans hc) rfl xq_99 rfl (by decide +kernel) (Or.inr ⟨_, rfl⟩) dX4_init_9 (Eq.refl 12) rfl rfl rfl (Nat.lt_succ_self _) ?_
  refine kx_aload dX4_init_12 (Eq.refl 13) rfl ?_
  refine kx_bipush dX4_init_13 (Eq.refl 15) (by decide +kernel) ?_
  refine kx_newa_l (n := 10) (kc := 1) (ks := 20) xq_51 dX4_init_15 (Eq.refl 17) (by decide) (by show σ.1.1 + 1 + 1 < xSCR; omega) (by decide) (by decide) (xok_c (show xokv _ (.ref c) from Or.inl (show c < σ.1.1 + 1 by omega)) xok_nil) (xol_s (show xokv _ (.ref c) from Or.inl (show c < σ.1.1 + 1 by omega)) xol_nil) ?_
  refine kx_ref (k := 11) (ty := .array .long) xcl4 (((kfr.new (kfr.ref (kfr.new (kfr.rf (A := (· = c)) (Nat.le_refl _))) (Or.inr rfl))).2.2.1 c hlt).trans hc) rfl xq_100 rfl (by decide +kernel) (Or.inr ⟨_, rfl⟩) dX4_init_17 (Eq.refl 20) rfl rfl rfl (Nat.lt_succ_self _) ?_
  refine kx_aload dX4_init_20 (Eq.refl 21) rfl ?_
  refine kx_bipush dX4_init_21 (Eq.refl 23) (by decide +kernel) ?_
  refine kx_newa_l (n := 20) (kc := 0) (ks := 0) xq_51 dX4_init_23 (Eq.refl 25) (by decide) (by show σ.1.1 + 2 + 1 < xSCR; omega) (by decide) (by decide) (xok_c (show xokv _ (.ref c) from Or.inl (show c < σ.1.1 + 2 by omega)) xok_nil) (xol_s (show xokv _ (.ref c) from Or.inl (show c < σ.1.1 + 2 by omega)) xol_nil) ?_
  refine kx_ref (k := 12) (ty := .array .long) xcl4 (((kfr.new (kfr.ref (kfr.new (kfr.ref (kfr.new (kfr.rf (A := (· = c)) (Nat.le_refl _))) (Or.inr rfl))) (Or.inr rfl))).2.2.1 c hlt).trans hc) rfl xq_101 rfl (by decide +kernel) (Or.inr ⟨_, rfl⟩) dX4_init_25 (Eq.refl 28) rfl rfl rfl (Nat.lt_succ_self _) ?_
  exact kx_vret rfl dX4_init_28 rfl
theorem bX5_init : xYI yX5_init cX5_init 1 0 := ⟨xq_79, xq_59, xq_80, ⟨by decide +kernel, by decide +kernel, by decide +kernel⟩, by decide, rfl⟩
abbrev uX5_init : xU := (RX5, cX5_init, 1, none, [], "<init>")
theorem mX5_init {l : Launch} {G : xG} (hl : l.stackTraces = false) (σ : xS) (c : Nat) (hlt : c < σ.1.1) (hc : σ.1.2.1 c = .inl 5) (hN : σ.1.1 + 1 < xSCR) : Kt l G yX5_init cX5_init 1 1 0 0 [.ref c] σ (k5 c σ) := by
  refine kt_of (u := uX5_init) (ls := [some (.ref c)]) 0 hl rfl (by decide +kernel) (Nat.le_of_ble_eq_true rfl) rfl ?_
  refine kx_aload dX5_init_0 (Eq.refl 1) rfl ?_
  refine kx_obj xq_81 xq_9 xq_10 dX5_init_1 (Eq.refl 4) (by decide) ?_
  refine kx_aload dX5_init_4 (Eq.refl 5) rfl ?_
  refine kx_iconst dX5_init_5 (Eq.refl 6) ?_
  refine kx_putI (k := 9) xcl5 (((kfr.rf (A := (· = c)) (Nat.le_refl _)).2.2.1 c hlt).trans hc) rfl xq_82 rfl (by decide +kernel) dX5_init_6 (Eq.refl 9) rfl ?_
  refine kx_aload dX5_init_9 (Eq.refl 10) rfl ?_
  refine kx_iconst dX5_init_10 (Eq.refl 11) ?_
  refine kx_putI (k := 10) xcl5 (((kfr.put (kfr.rf (A := (· = c)) (Nat.le_refl _))).2.2.1 c hlt).trans hc) rfl xq_83 rfl (by decide +kernel) dX5_init_11 (Eq.refl 14) rfl ?_
  exact kx_vret rfl dX5_init_14 rfl
theorem bX6_init : xYI yX6_init cX6_init 1 0 := ⟨xq_90, xq_63, xq_91, ⟨by decide +kernel, by decide +kernel, by decide +kernel⟩, by decide, rfl⟩
abbrev uX6_init : xU := (RX6, cX6_init, 1, none, [], "<init>")
theorem mX6_init {l : Launch} {G : xG} (hl : l.stackTraces = false) (σ : xS) (c : Nat) (hlt : c < σ.1.1) (hc : σ.1.2.1 c = .inl 6) (hN : σ.1.1 + 1 < xSCR) : Kt l G yX6_init cX6_init 1 1 0 0 [.ref c] σ (σ) := by
  refine kt_of (u := uX6_init) (ls := [some (.ref c)]) 0 hl rfl (by decide +kernel) (Nat.le_of_ble_eq_true rfl) rfl ?_
  refine kx_aload dX6_init_0 (Eq.refl 1) rfl ?_
  refine kx_obj xq_92 xq_9 xq_10 dX6_init_1 (Eq.refl 4) (by decide) ?_
  exact kx_vret rfl dX6_init_4 rfl
theorem bX7_init : xYI yX7_init cX7_init 1 0 := ⟨xq_93, xq_65, xq_94, ⟨by decide +kernel, by decide +kernel, by decide +kernel⟩, by decide, rfl⟩
abbrev uX7_init : xU := (RX7, cX7_init, 1, none, [], "<init>")
theorem mX7_init {l : Launch} {G : xG} (hl : l.stackTraces = false) (σ : xS) (c : Nat) (hlt : c < σ.1.1) (hc : σ.1.2.1 c = .inl 7) (hN : σ.1.1 + 1 < xSCR) : Kt l G yX7_init cX7_init 1 1 0 0 [.ref c] σ (σ) := by
  refine kt_of (u := uX7_init) (ls := [some (.ref c)]) 0 hl rfl (by decide +kernel) (Nat.le_of_ble_eq_true rfl) rfl ?_
  refine kx_aload dX7_init_0 (Eq.refl 1) rfl ?_
  refine kx_obj xq_95 xq_9 xq_10 dX7_init_1 (Eq.refl 4) (by decide) ?_
  exact kx_vret rfl dX7_init_4 rfl
theorem bX9_init : xYI yX9_init cX9_init 1 0 := ⟨xq_76, xq_57, xq_77, ⟨by decide +kernel, by decide +kernel, by decide +kernel⟩, by decide, rfl⟩
abbrev uX9_init : xU := (RX9, cX9_init, 1, none, [], "<init>")
theorem mX9_init {l : Launch} {G : xG} (hl : l.stackTraces = false) (σ : xS) (c : Nat) (hlt : c < σ.1.1) (hc : σ.1.2.1 c = .inl 9) (hN : σ.1.1 + 1 < xSCR) : Kt l G yX9_init cX9_init 1 1 0 0 [.ref c] σ (σ) := by
  refine kt_of (u := uX9_init) (ls := [some (.ref c)]) 0 hl rfl (by decide +kernel) (Nat.le_of_ble_eq_true rfl) rfl ?_
  refine kx_aload dX9_init_0 (Eq.refl 1) rfl ?_
  refine kx_obj xq_78 xq_9 xq_10 dX9_init_1 (Eq.refl 4) (by decide) ?_
  exact kx_vret rfl dX9_init_4 rfl
theorem bX8_init : xYI yX8_init cX8_init 1 0 := ⟨xq_29, xq_13, xq_30, ⟨by decide +kernel, by decide +kernel, by decide +kernel⟩, by decide, rfl⟩
abbrev uX8_init : xU := (RX8, cX8_init, 1, none, [], "<init>")
theorem mX8_init {l : Launch} {G : xG} (hl : l.stackTraces = false) (σ : xS) (c : Nat) (hlt : c < σ.1.1) (hc : σ.1.2.1 c = .inl 8) (hN : σ.1.1 + 2 < xSCR) : Kt l G yX8_init cX8_init 1 1 1 10 [.ref c] σ (k8 c σ) := by
  refine kt_of (u := uX8_init) (ls := [some (.ref c)]) 0 hl rfl (by decide +kernel) (Nat.le_of_ble_eq_true rfl) rfl ?_
  refine kx_aload dX8_init_0 (Eq.refl 1) rfl ?_
  refine kx_obj xq_31 xq_9 xq_10 dX8_init_1 (Eq.refl 4) (by decide) ?_
  refine kx_aload dX8_init_4 (Eq.refl 5) rfl ?_
  refine kx_bipush dX8_init_5 (Eq.refl 7) (by decide +kernel) ?_
  refine kx_newa_i (n := 10) (kc := 0) (ks := 0) xq_3 dX8_init_7 (Eq.refl 9) (by decide) (by show σ.1.1 + 0 + 1 < xSCR; omega) (by decide) (by decide) (xok_c (show xokv _ (.ref c) from Or.inl (show c < σ.1.1 + 0 by omega)) xok_nil) (xol_s (show xokv _ (.ref c) from Or.inl (show c < σ.1.1 + 0 by omega)) xol_nil) ?_
  refine kx_ref (k := 0) (ty := .array .int) xcl8 (((kfr.new (kfr.rf (A := (· = c)) (Nat.le_refl _))).2.2.1 c hlt).trans hc) rfl xq_32 rfl (by decide +kernel) (Or.inr ⟨_, rfl⟩) dX8_init_9 (Eq.refl 12) rfl rfl rfl (Nat.lt_succ_self _) ?_
  exact kx_vret rfl dX8_init_12 rfl
theorem bX10_init : xYI yX10_init cX10_init 2 1 := ⟨xq_85, xq_61, xq_86, ⟨by decide +kernel, by decide +kernel, by decide +kernel⟩, by decide, rfl⟩
abbrev uX10_init : xU := (RX10, cX10_init, 2, none, [], "<init>")
theorem mX10_init {l : Launch} {G : xG} (hl : l.stackTraces = false) (σ : xS) (c : Nat) (hlt : c < σ.1.1) (hc : σ.1.2.1 c = .inl 10) (i : Nat) (hN : σ.1.1 + 1 < xSCR) : Kt l G yX10_init cX10_init 2 1 0 0 [.ref c, iv (i : Int)] σ (k10 c i σ) := by
  refine kt_of (u := uX10_init) (ls := [some (.ref c), some (iv (i : Int))]) 0 hl rfl (by decide +kernel) (Nat.le_of_ble_eq_true rfl) rfl ?_
  refine kx_aload dX10_init_0 (Eq.refl 1) rfl ?_
  refine kx_obj xq_87 xq_9 xq_10 dX10_init_1 (Eq.refl 4) (by decide) ?_
  refine kx_aload dX10_init_4 (Eq.refl 5) rfl ?_
  refine kx_iconst dX10_init_5 (Eq.refl 6) ?_
  refine kx_putI (k := 12) xcl10 (((kfr.rf (A := (· = c)) (Nat.le_refl _)).2.2.1 c hlt).trans hc) rfl xq_88 rfl (by decide +kernel) dX10_init_6 (Eq.refl 9) rfl ?_
  refine kx_aload dX10_init_9 (Eq.refl 10) rfl ?_
  refine kx_iload dX10_init_10 (Eq.refl 11) rfl ?_
  refine kx_putIF (k := 0) xcl10 (((kfr.put (kfr.rf (A := (· = c)) (Nat.le_refl _))).2.2.1 c hlt).trans hc) rfl xq_89 rfl (by decide +kernel) dX10_init_11 (Eq.refl 14) rfl rfl rfl ?_
  exact kx_vret rfl dX10_init_14 rfl
theorem bX2_init : xYI yX2_init cX2_init 2 1 := ⟨xq_103, xq_22, xq_104, ⟨by decide +kernel, by decide +kernel, by decide +kernel⟩, by decide, rfl⟩
abbrev uX2_init : xU := (RX2, cX2_init, 2, none, [], "<init>")
theorem mX2_init {l : Launch} {G : xG} (hl : l.stackTraces = false) (σ : xS) (c : Nat) (hlt : c < σ.1.1) (hc : σ.1.2.1 c = .inl 2) (b : Nat) (hltb : b < σ.1.1) (hN : σ.1.1 + 4 < xSCR) : Kt l G yX2_init cX2_init 2 1 3 41 [.ref c, .ref b] σ (k2 c b σ) := by
  refine kt_of (u := uX2_init) (ls := [some (.ref c), some (.ref b)]) 0 hl rfl (by decide +kernel) (Nat.le_of_ble_eq_true rfl) rfl ?_
  refine kx_aload dX2_init_0 (Eq.refl 1) rfl ?_
  refine kx_obj xq_105 xq_9 xq_10 dX2_init_1 (Eq.refl 4) (by decide) ?_
  refine kx_aload dX2_init_4 (Eq.refl 5) rfl ?_
  refine kx_bipush dX2_init_5 (Eq.refl 7) (by decide +kernel) ?_
  refine kx_newa_i (n := 20) (kc := 2) (ks := 21) xq_3 dX2_init_7 (Eq.refl 9) (by decide) (by show σ.1.1 + 0 + 1 < xSCR; omega) (by decide) (by decide) (xok_c (show xokv _ (.ref c) from Or.inl (show c < σ.1.1 + 0 by omega)) xok_nil) (xol_s (show xokv _ (.ref c) from Or.inl (show c < σ.1.1 + 0 by omega)) (xol_s (show xokv _ (.ref b) from Or.inl (show b < σ.1.1 + 0 by omega)) xol_nil)) ?_
  refine kx_ref (k := 1) (ty := .array .int) xcl2 (((kfr.new (kfr.rf (A := (· = c)) (Nat.le_refl _))).2.2.1 c hlt).trans hc) rfl xq_106 rfl (by decide +kernel) (Or.inr ⟨_, rfl⟩) dX2_init_9 (Eq.refl 12) rfl rfl rfl (Nat.lt_succ_self _) ?_
  refine kx_aload dX2_init_12 (Eq.refl 13) rfl ?_
  refine kx_bipush dX2_init_13 (Eq.refl 15) (by decide +kernel) ?_
  refine kx_newa_l (n := 11) (kc := 1) (ks := 10) xq_51 dX2_init_15 (Eq.refl 17) (by decide) (by show σ.1.1 + 1 + 1 < xSCR; omega) (by decide) (by decide) (xok_c (show xokv _ (.ref c) from Or.inl (show c < σ.1.1 + 1 by omega)) xok_nil) (xol_s (show xokv _ (.ref c) from Or.inl (show c < σ.1.1 + 1 by omega)) (xol_s (show xokv _ (.ref b) from Or.inl (show b < σ.1.1 + 1 by omega)) xol_nil)) ?_
  refine kx_ref (k := 2) (ty := .array .long) xcl2 (((kfr.new (kfr.ref (kfr.new (kfr.rf (A := (· = c)) (Nat.le_refl _))) (Or.inr rfl))).2.2.1 c hlt).trans hc) rfl xq_107 rfl (by decide +kernel) (Or.inr ⟨_, rfl⟩) dX2_init_17 (Eq.refl 20) rfl rfl rfl (Nat.lt_succ_self _) ?_
  refine kx_aload dX2_init_20 (Eq.refl 21) rfl ?_
  refine kx_bipush dX2_init_21 (Eq.refl 23) (by decide +kernel) ?_
  refine kx_newa_l (n := 10) (kc := 0) (ks := 0) xq_51 dX2_init_23 (Eq.refl 25) (by decide) (by show σ.1.1 + 2 + 1 < xSCR; omega) (by decide) (by decide) (xok_c (show xokv _ (.ref c) from Or.inl (show c < σ.1.1 + 2 by omega)) xok_nil) (xol_s (show xokv _ (.ref c) from Or.inl (show c < σ.1.1 + 2 by omega)) (xol_s (show xokv _ (.ref b) from Or.inl (show b < σ.1.1 + 2 by omega)) xol_nil)) ?_
  refine kx_ref (k := 3) (ty := .array .long) xcl2 (((kfr.new (kfr.ref (kfr.new (kfr.ref (kfr.new (kfr.rf (A := (· = c)) (Nat.le_refl _))) (Or.inr rfl))) (Or.inr rfl))).2.2.1 c hlt).trans hc) rfl xq_108 rfl (by decide +kernel) (Or.inr ⟨_, rfl⟩) dX2_init_25 (Eq.refl 28) rfl rfl rfl (Nat.lt_succ_self _) ?_
  refine kx_aload dX2_init_28 (Eq.refl 29) rfl ?_
  refine kx_aload dX2_init_29 (Eq.refl 30) rfl ?_
  refine kx_ref (k := 0) (ty := .object "SettlementRing$Book") xcl2 (((kfr.ref (kfr.new (kfr.ref (kfr.new (kfr.ref (kfr.new (kfr.rf (A := (· = c)) (Nat.le_refl _))) (Or.inr rfl))) (Or.inr rfl))) (Or.inr rfl)).2.2.1 c hlt).trans hc) rfl xq_109 rfl (by decide +kernel) (Or.inl ⟨_, rfl⟩) dX2_init_30 (Eq.refl 33) rfl rfl rfl (show b < σ.1.1 + 3 by omega) ?_
  exact kx_vret rfl dX2_init_33 rfl
theorem bX3_init : xYI yX3_init cX3_init 2 1 := ⟨xq_111, xq_26, xq_112, ⟨by decide +kernel, by decide +kernel, by decide +kernel⟩, by decide, rfl⟩
abbrev uX3_init : xU := (RX3, cX3_init, 2, none, [], "<init>")
theorem mX3_init {l : Launch} {G : xG} (hl : l.stackTraces = false) (σ : xS) (c : Nat) (hlt : c < σ.1.1) (hc : σ.1.2.1 c = .inl 3) (b : Nat) (hltb : b < σ.1.1) (hN : σ.1.1 + 1 < xSCR) : Kt l G yX3_init cX3_init 2 1 0 0 [.ref c, .ref b] σ (k3 c b σ) := by
  refine kt_of (u := uX3_init) (ls := [some (.ref c), some (.ref b)]) 0 hl rfl (by decide +kernel) (Nat.le_of_ble_eq_true rfl) rfl ?_
  refine kx_aload dX3_init_0 (Eq.refl 1) rfl ?_
  refine kx_obj xq_113 xq_9 xq_10 dX3_init_1 (Eq.refl 4) (by decide) ?_
  refine kx_aload dX3_init_4 (Eq.refl 5) rfl ?_
  refine kx_aload dX3_init_5 (Eq.refl 6) rfl ?_
  refine kx_ref (k := 0) (ty := .object "SettlementRing$Book") xcl3 (((kfr.rf (A := (· = c)) (Nat.le_refl _)).2.2.1 c hlt).trans hc) rfl xq_114 rfl (by decide +kernel) (Or.inl ⟨_, rfl⟩) dX3_init_6 (Eq.refl 9) rfl rfl rfl (show b < σ.1.1 + 0 by omega) ?_
  exact kx_vret rfl dX3_init_9 rfl
