theorem k0_own {σ : xS} {c : Nat} (h : c < σ.1.1) : (k0 c σ).1.2.1 c = σ.1.2.1 c := ((((kfr.rf (A := (· = c)) (Nat.le_refl _)).put.arr (Or.inr rfl)).arr (Or.inr rfl)).arr (Or.inr rfl)).2.2.1 c h
theorem k4_own {σ : xS} {c : Nat} (h : c < σ.1.1) : (k4 c σ).1.2.1 c = σ.1.2.1 c := ((((kfr.rf (A := (· = c)) (Nat.le_refl _)).arr (Or.inr rfl)).arr (Or.inr rfl)).arr (Or.inr rfl)).2.2.1 c h
theorem kArr_tn {t : Nat ⊕ (Nat × Nat)} {c k : Nat} {σ : xS} : (kArr t c k σ).1.2.1 σ.1.1 = t := if_pos rfl
theorem kArr_to {t : Nat ⊕ (Nat × Nat)} {c k x : Nat} {σ : xS} (h : x < σ.1.1) : (kArr t c k σ).1.2.1 x = σ.1.2.1 x := if_neg (Nat.ne_of_lt h)
theorem kArr_rn {t : Nat ⊕ (Nat × Nat)} {c k : Nat} {σ : xS} : (kArr t c k σ).1.2.2 c k = some σ.1.1 := xup_same
theorem kArr_ro {t : Nat ⊕ (Nat × Nat)} {c k j : Nat} {σ : xS} (hj : j ≠ k) (h : c < σ.1.1) : (kArr t c k σ).1.2.2 c j = σ.1.2.2 c j := (xup_ne (fun z => hj z.2)).trans (if_neg (Nat.ne_of_lt h))
theorem bX1_init : xYI yX1_init cX1_init 3 1 := ⟨xq_34, xq_17, xq_35, ⟨by decide +kernel, by decide +kernel, by decide +kernel⟩, by decide, rfl⟩
abbrev uX1_init : xU := (RX1, cX1_init, 3, none, [], "<init>")
theorem gk_81 {l : Launch} {G : xG} {Qr : Option Value → xS → Prop} {Qx : Nat → xS → Prop} (hl : l.stackTraces = false) (c mail a n1 kc ks : Nat) (hlt : c < n1) (hla : a < n1) (hlm : mail < n1) (hca : c ≠ a) : ∀ (r k : Nat) (σ : xS), r + k = 11 → n1 ≤ σ.1.1 → σ.1.2.1 c = .inl 1 → σ.1.2.1 a = .inr (3, 11) → σ.1.2.2 c 1 = some a → σ.1.1 + r * 4 + 1 < xSCR →
    (∀ z : Int, Ev l G uX1_init 2 Qr Qx kc ks 109 [some (.ref c), some (.ref mail), some (iv z)] [] (kLoop (kObj (fun _ => k0) 0 a) r k σ)) → Ev l G uX1_init 2 Qr Qx (kc + r * 4) (ks + r * 64) 81 [some (.ref c), some (.ref mail), some (iv (k : Int))] [] σ := by
  intro r; induction r with
  | zero =>
    intro k σ hk h1 hc ha hr hN K
    refine kx_iload dX1_init_81 (Eq.refl 82) rfl ?_
    refine kx_aload dX1_init_82 (Eq.refl 83) rfl ?_
    refine kx_getR (k := 1) xcl1 hc rfl xq_38 rfl hr dX1_init_83 (Eq.refl 86) ?_
    refine kx_alen ha (by decide) dX1_init_86 (Eq.refl 87) ?_
    refine kx_ge (tgt := 109) dX1_init_87 (Eq.refl 90) (by decide) (by omega) (by decide) (fun _ => ?_) (fun z => absurd z (by omega))
    exact xv_room (by omega) (by omega) (K (k : Int))
  | succ r ih =>
    intro k σ hk h1 hc ha hr hN K
    refine kx_iload dX1_init_81 (Eq.refl 82) rfl ?_
    refine kx_aload dX1_init_82 (Eq.refl 83) rfl ?_
    refine kx_getR (k := 1) xcl1 hc rfl xq_38 rfl hr dX1_init_83 (Eq.refl 86) ?_
    refine kx_alen ha (by decide) dX1_init_86 (Eq.refl 87) ?_
    refine kx_ge (tgt := 109) dX1_init_87 (Eq.refl 90) (by decide) (by omega) (by decide) (fun z => absurd z (by omega)) (fun _ => ?_)
    refine kx_aload dX1_init_90 (Eq.refl 91) rfl ?_
    refine kx_getR (k := 1) xcl1 hc rfl xq_38 rfl hr dX1_init_91 (Eq.refl 94) ?_
    refine kx_iload dX1_init_94 (Eq.refl 95) rfl ?_
    have hls : ∀ v, some v ∈ [some (.ref c), some (.ref mail), some (iv (k : Int))] → xokv σ.1.1 v := xol_s (Or.inl (Nat.lt_of_lt_of_le hlt h1)) (xol_s (Or.inl (Nat.lt_of_lt_of_le hlm h1)) (xol_s trivial xol_nil))
    have hls2 : ∀ v, some v ∈ [some (.ref c), some (.ref mail), some (iv (k : Int))] → xokv (σ.1.1 + 1) v := xol_s (Or.inl (show c < σ.1.1 + 1 by omega)) (xol_s (Or.inl (show mail < σ.1.1 + 1 by omega)) (xol_s trivial xol_nil))
    refine kx_new (kc := kc + r * 4 + 3) (ks := ks + r * 64 + 52) xcl0 tyX0 tyX0_ok (by decide +kernel) xq_37 xq_54 xq_55 dX1_init_95 (Eq.refl 98) (by omega) (by omega) (by omega) (xok_c trivial (xok_c (Or.inl (Nat.lt_of_lt_of_le hla h1)) xok_nil)) hls ?_
    refine kx_dup dX1_init_98 (Eq.refl 99) ?_
    refine kx_callIN (kc := kc + r * 4) (ks := ks + r * 64) (st := [.ref σ.1.1, iv (k : Int), .ref a]) (mX0_init hl (xnew σ (.inl 0)) σ.1.1 (Nat.lt_succ_self _) (if_pos rfl) (show σ.1.1 + 1 + 4 < xSCR by omega)) bX0_init (fun U h => h.2.2.2.2.2.2.2.2.2.1) rfl (by decide) (Nat.le_of_ble_eq_true rfl) dX1_init_99 (Eq.refl 102) rfl (by omega) (by omega) (xok_c (Or.inl (Nat.lt_succ_self _)) (xok_c trivial (xok_c (Or.inl (show a < σ.1.1 + 1 by omega)) xok_nil))) hls2 ?_
    have hf : kfr (· = a) n1 σ (kObj (fun _ => k0) 0 a k σ) := kfr_obj h1 (fun τ h c hc => kfr_k0 h hc)
    have hta : (k0 σ.1.1 (xnew σ (.inl 0))).1.2.1 a = .inr (3, 11) := (hf.2.2.1 a hla).trans ha
    have htn : (k0 σ.1.1 (xnew σ (.inl 0))).1.2.1 σ.1.1 = .inl 0 := by
      exact (k0_own (Nat.lt_succ_self _)).trans (if_pos rfl)
    refine kx_aast (k := k) hta (by decide) (by decide) rfl xcl0 htn rfl (by omega) (by decide) dX1_init_102 (Eq.refl 103) ?_
    refine kx_iinc (ls2 := [some (.ref c), some (.ref mail), some (iv ((k + 1 : Nat) : Int))]) dX1_init_103 (Eq.refl 106) rfl (by decide) rfl ?_
    refine kx_goto (tgt := 81) dX1_init_106 (by decide) ?_
    exact ih (k + 1) (kObj (fun _ => k0) 0 a k σ) (by omega) (Nat.le_trans h1 hf.2.1) ((hf.2.2.1 c hlt).trans hc) ((hf.2.2.1 a hla).trans ha) ((congrFun (hf.2.2.2 c hlt hca) 1).trans hr) (by show σ.1.1 + 4 + r * 4 + 1 < xSCR; omega) K
theorem gk_111 {l : Launch} {G : xG} {Qr : Option Value → xS → Prop} {Qx : Nat → xS → Prop} (hl : l.stackTraces = false) (c mail a n1 kc ks : Nat) (hlt : c < n1) (hla : a < n1) (hlm : mail < n1) (hca : c ≠ a) : ∀ (r k : Nat) (σ : xS), r + k = 5 → n1 ≤ σ.1.1 → σ.1.2.1 c = .inl 1 → σ.1.2.1 a = .inr (4, 5) → σ.1.2.2 c 2 = some a → σ.1.1 + r * 1 + 1 < xSCR →
    (∀ z : Int, Ev l G uX1_init 2 Qr Qx kc ks 139 [some (.ref c), some (.ref mail), some (iv z)] [] (kLoop (kObj (fun _ _ τ => τ) 9 a) r k σ)) → Ev l G uX1_init 2 Qr Qx (kc + r * 1) (ks + r * 4) 111 [some (.ref c), some (.ref mail), some (iv (k : Int))] [] σ := by
  intro r; induction r with
  | zero =>
    intro k σ hk h1 hc ha hr hN K
    refine kx_iload dX1_init_111 (Eq.refl 112) rfl ?_
    refine kx_aload dX1_init_112 (Eq.refl 113) rfl ?_
    refine kx_getR (k := 2) xcl1 hc rfl xq_40 rfl hr dX1_init_113 (Eq.refl 116) ?_
    refine kx_alen ha (by decide) dX1_init_116 (Eq.refl 117) ?_
    refine kx_ge (tgt := 139) dX1_init_117 (Eq.refl 120) (by decide) (by omega) (by decide) (fun _ => ?_) (fun z => absurd z (by omega))
    exact xv_room (by omega) (by omega) (K (k : Int))
  | succ r ih =>
    intro k σ hk h1 hc ha hr hN K
    refine kx_iload dX1_init_111 (Eq.refl 112) rfl ?_
    refine kx_aload dX1_init_112 (Eq.refl 113) rfl ?_
    refine kx_getR (k := 2) xcl1 hc rfl xq_40 rfl hr dX1_init_113 (Eq.refl 116) ?_
    refine kx_alen ha (by decide) dX1_init_116 (Eq.refl 117) ?_
    refine kx_ge (tgt := 139) dX1_init_117 (Eq.refl 120) (by decide) (by omega) (by decide) (fun z => absurd z (by omega)) (fun _ => ?_)
    refine kx_aload dX1_init_120 (Eq.refl 121) rfl ?_
    refine kx_getR (k := 2) xcl1 hc rfl xq_40 rfl hr dX1_init_121 (Eq.refl 124) ?_
    refine kx_iload dX1_init_124 (Eq.refl 125) rfl ?_
    have hls : ∀ v, some v ∈ [some (.ref c), some (.ref mail), some (iv (k : Int))] → xokv σ.1.1 v := xol_s (Or.inl (Nat.lt_of_lt_of_le hlt h1)) (xol_s (Or.inl (Nat.lt_of_lt_of_le hlm h1)) (xol_s trivial xol_nil))
    have hls2 : ∀ v, some v ∈ [some (.ref c), some (.ref mail), some (iv (k : Int))] → xokv (σ.1.1 + 1) v := xol_s (Or.inl (show c < σ.1.1 + 1 by omega)) (xol_s (Or.inl (show mail < σ.1.1 + 1 by omega)) (xol_s trivial xol_nil))
    refine kx_new (kc := kc + r * 1 + 0) (ks := ks + r * 4 + 0) xcl9 tyX9 tyX9_ok (by decide +kernel) xq_39 xq_56 xq_57 dX1_init_125 (Eq.refl 128) (by omega) (by omega) (by omega) (xok_c trivial (xok_c (Or.inl (Nat.lt_of_lt_of_le hla h1)) xok_nil)) hls ?_
    refine kx_dup dX1_init_128 (Eq.refl 129) ?_
    refine kx_callIN (kc := kc + r * 1) (ks := ks + r * 4) (st := [.ref σ.1.1, iv (k : Int), .ref a]) (mX9_init hl (xnew σ (.inl 9)) σ.1.1 (Nat.lt_succ_self _) (if_pos rfl) (show σ.1.1 + 1 + 1 < xSCR by omega)) bX9_init (fun U h => h.2.2.2.2.2.2.2.2.2.2.1) rfl (by decide) (Nat.le_of_ble_eq_true rfl) dX1_init_129 (Eq.refl 132) rfl (by omega) (by omega) (xok_c (Or.inl (Nat.lt_succ_self _)) (xok_c trivial (xok_c (Or.inl (show a < σ.1.1 + 1 by omega)) xok_nil))) hls2 ?_
    have hf : kfr (· = a) n1 σ (kObj (fun _ _ τ => τ) 9 a k σ) := kfr_obj h1 (fun τ h c hc => kfr.rf h)
    have hta : (xnew σ (.inl 9)).1.2.1 a = .inr (4, 5) := (hf.2.2.1 a hla).trans ha
    have htn : (xnew σ (.inl 9)).1.2.1 σ.1.1 = .inl 9 := by
      exact if_pos rfl
    refine kx_aast (k := k) hta (by decide) (by decide) rfl xcl9 htn rfl (by omega) (by decide) dX1_init_132 (Eq.refl 133) ?_
    refine kx_iinc (ls2 := [some (.ref c), some (.ref mail), some (iv ((k + 1 : Nat) : Int))]) dX1_init_133 (Eq.refl 136) rfl (by decide) rfl ?_
    refine kx_goto (tgt := 111) dX1_init_136 (by decide) ?_
    exact ih (k + 1) (kObj (fun _ _ τ => τ) 9 a k σ) (by omega) (Nat.le_trans h1 hf.2.1) ((hf.2.2.1 c hlt).trans hc) ((hf.2.2.1 a hla).trans ha) ((congrFun (hf.2.2.2 c hlt hca) 2).trans hr) (by show σ.1.1 + 1 + r * 1 + 1 < xSCR; omega) K
theorem gk_141 {l : Launch} {G : xG} {Qr : Option Value → xS → Prop} {Qx : Nat → xS → Prop} (hl : l.stackTraces = false) (c mail a n1 kc ks : Nat) (hlt : c < n1) (hla : a < n1) (hlm : mail < n1) (hca : c ≠ a) : ∀ (r k : Nat) (σ : xS), r + k = 41 → n1 ≤ σ.1.1 → σ.1.2.1 c = .inl 1 → σ.1.2.1 a = .inr (5, 41) → σ.1.2.2 c 3 = some a → σ.1.1 + r * 1 + 1 < xSCR →
    (∀ z : Int, Ev l G uX1_init 2 Qr Qx kc ks 169 [some (.ref c), some (.ref mail), some (iv z)] [] (kLoop (kObj (fun _ => k5) 5 a) r k σ)) → Ev l G uX1_init 2 Qr Qx (kc + r * 1) (ks + r * 13) 141 [some (.ref c), some (.ref mail), some (iv (k : Int))] [] σ := by
  intro r; induction r with
  | zero =>
    intro k σ hk h1 hc ha hr hN K
    refine kx_iload dX1_init_141 (Eq.refl 142) rfl ?_
    refine kx_aload dX1_init_142 (Eq.refl 143) rfl ?_
    refine kx_getR (k := 3) xcl1 hc rfl xq_42 rfl hr dX1_init_143 (Eq.refl 146) ?_
    refine kx_alen ha (by decide) dX1_init_146 (Eq.refl 147) ?_
    refine kx_ge (tgt := 169) dX1_init_147 (Eq.refl 150) (by decide) (by omega) (by decide) (fun _ => ?_) (fun z => absurd z (by omega))
    exact xv_room (by omega) (by omega) (K (k : Int))
  | succ r ih =>
    intro k σ hk h1 hc ha hr hN K
    refine kx_iload dX1_init_141 (Eq.refl 142) rfl ?_
    refine kx_aload dX1_init_142 (Eq.refl 143) rfl ?_
    refine kx_getR (k := 3) xcl1 hc rfl xq_42 rfl hr dX1_init_143 (Eq.refl 146) ?_
    refine kx_alen ha (by decide) dX1_init_146 (Eq.refl 147) ?_
    refine kx_ge (tgt := 169) dX1_init_147 (Eq.refl 150) (by decide) (by omega) (by decide) (fun z => absurd z (by omega)) (fun _ => ?_)
    refine kx_aload dX1_init_150 (Eq.refl 151) rfl ?_
    refine kx_getR (k := 3) xcl1 hc rfl xq_42 rfl hr dX1_init_151 (Eq.refl 154) ?_
    refine kx_iload dX1_init_154 (Eq.refl 155) rfl ?_
    have hls : ∀ v, some v ∈ [some (.ref c), some (.ref mail), some (iv (k : Int))] → xokv σ.1.1 v := xol_s (Or.inl (Nat.lt_of_lt_of_le hlt h1)) (xol_s (Or.inl (Nat.lt_of_lt_of_le hlm h1)) (xol_s trivial xol_nil))
    have hls2 : ∀ v, some v ∈ [some (.ref c), some (.ref mail), some (iv (k : Int))] → xokv (σ.1.1 + 1) v := xol_s (Or.inl (show c < σ.1.1 + 1 by omega)) (xol_s (Or.inl (show mail < σ.1.1 + 1 by omega)) (xol_s trivial xol_nil))
    refine kx_new (kc := kc + r * 1 + 0) (ks := ks + r * 13 + 0) xcl5 tyX5 tyX5_ok (by decide +kernel) xq_41 xq_58 xq_59 dX1_init_155 (Eq.refl 158) (by omega) (by omega) (by omega) (xok_c trivial (xok_c (Or.inl (Nat.lt_of_lt_of_le hla h1)) xok_nil)) hls ?_
    refine kx_dup dX1_init_158 (Eq.refl 159) ?_
    refine kx_callIN (kc := kc + r * 1) (ks := ks + r * 13) (st := [.ref σ.1.1, iv (k : Int), .ref a]) (mX5_init hl (xnew σ (.inl 5)) σ.1.1 (Nat.lt_succ_self _) (if_pos rfl) (show σ.1.1 + 1 + 1 < xSCR by omega)) bX5_init (fun U h => h.2.2.2.2.2.2.2.2.2.2.2.1) rfl (by decide) (Nat.le_of_ble_eq_true rfl) dX1_init_159 (Eq.refl 162) rfl (by omega) (by omega) (xok_c (Or.inl (Nat.lt_succ_self _)) (xok_c trivial (xok_c (Or.inl (show a < σ.1.1 + 1 by omega)) xok_nil))) hls2 ?_
    have hf : kfr (· = a) n1 σ (kObj (fun _ => k5) 5 a k σ) := kfr_obj h1 (fun τ h c hc => kfr_k5 h)
    have hta : (k5 σ.1.1 (xnew σ (.inl 5))).1.2.1 a = .inr (5, 41) := (hf.2.2.1 a hla).trans ha
    have htn : (k5 σ.1.1 (xnew σ (.inl 5))).1.2.1 σ.1.1 = .inl 5 := by
      exact if_pos rfl
    refine kx_aast (k := k) hta (by decide) (by decide) rfl xcl5 htn rfl (by omega) (by decide) dX1_init_162 (Eq.refl 163) ?_
    refine kx_iinc (ls2 := [some (.ref c), some (.ref mail), some (iv ((k + 1 : Nat) : Int))]) dX1_init_163 (Eq.refl 166) rfl (by decide) rfl ?_
    refine kx_goto (tgt := 141) dX1_init_166 (by decide) ?_
    exact ih (k + 1) (kObj (fun _ => k5) 5 a k σ) (by omega) (Nat.le_trans h1 hf.2.1) ((hf.2.2.1 c hlt).trans hc) ((hf.2.2.1 a hla).trans ha) ((congrFun (hf.2.2.2 c hlt hca) 3).trans hr) (by show σ.1.1 + 1 + r * 1 + 1 < xSCR; omega) K
theorem gk_171 {l : Launch} {G : xG} {Qr : Option Value → xS → Prop} {Qx : Nat → xS → Prop} (hl : l.stackTraces = false) (c mail a n1 kc ks : Nat) (hlt : c < n1) (hla : a < n1) (hlm : mail < n1) (hca : c ≠ a) : ∀ (r k : Nat) (σ : xS), r + k = 21 → n1 ≤ σ.1.1 → σ.1.2.1 c = .inl 1 → σ.1.2.1 a = .inr (6, 21) → σ.1.2.2 c 4 = some a → σ.1.1 + r * 1 + 1 < xSCR →
    (∀ z : Int, Ev l G uX1_init 2 Qr Qx kc ks 200 [some (.ref c), some (.ref mail), some (iv z)] [] (kLoop (kObj (fun k c => k10 c k) 10 a) r k σ)) → Ev l G uX1_init 2 Qr Qx (kc + r * 1) (ks + r * 13) 171 [some (.ref c), some (.ref mail), some (iv (k : Int))] [] σ := by
  intro r; induction r with
  | zero =>
    intro k σ hk h1 hc ha hr hN K
    refine kx_iload dX1_init_171 (Eq.refl 172) rfl ?_
    refine kx_aload dX1_init_172 (Eq.refl 173) rfl ?_
    refine kx_getR (k := 4) xcl1 hc rfl xq_44 rfl hr dX1_init_173 (Eq.refl 176) ?_
    refine kx_alen ha (by decide) dX1_init_176 (Eq.refl 177) ?_
    refine kx_ge (tgt := 200) dX1_init_177 (Eq.refl 180) (by decide) (by omega) (by decide) (fun _ => ?_) (fun z => absurd z (by omega))
    exact xv_room (by omega) (by omega) (K (k : Int))
  | succ r ih =>
    intro k σ hk h1 hc ha hr hN K
    refine kx_iload dX1_init_171 (Eq.refl 172) rfl ?_
    refine kx_aload dX1_init_172 (Eq.refl 173) rfl ?_
    refine kx_getR (k := 4) xcl1 hc rfl xq_44 rfl hr dX1_init_173 (Eq.refl 176) ?_
    refine kx_alen ha (by decide) dX1_init_176 (Eq.refl 177) ?_
    refine kx_ge (tgt := 200) dX1_init_177 (Eq.refl 180) (by decide) (by omega) (by decide) (fun z => absurd z (by omega)) (fun _ => ?_)
    refine kx_aload dX1_init_180 (Eq.refl 181) rfl ?_
    refine kx_getR (k := 4) xcl1 hc rfl xq_44 rfl hr dX1_init_181 (Eq.refl 184) ?_
    refine kx_iload dX1_init_184 (Eq.refl 185) rfl ?_
    have hls : ∀ v, some v ∈ [some (.ref c), some (.ref mail), some (iv (k : Int))] → xokv σ.1.1 v := xol_s (Or.inl (Nat.lt_of_lt_of_le hlt h1)) (xol_s (Or.inl (Nat.lt_of_lt_of_le hlm h1)) (xol_s trivial xol_nil))
    have hls2 : ∀ v, some v ∈ [some (.ref c), some (.ref mail), some (iv (k : Int))] → xokv (σ.1.1 + 1) v := xol_s (Or.inl (show c < σ.1.1 + 1 by omega)) (xol_s (Or.inl (show mail < σ.1.1 + 1 by omega)) (xol_s trivial xol_nil))
    refine kx_new (kc := kc + r * 1 + 0) (ks := ks + r * 13 + 0) xcl10 tyX10 tyX10_ok (by decide +kernel) xq_43 xq_60 xq_61 dX1_init_185 (Eq.refl 188) (by omega) (by omega) (by omega) (xok_c trivial (xok_c (Or.inl (Nat.lt_of_lt_of_le hla h1)) xok_nil)) hls ?_
    refine kx_dup dX1_init_188 (Eq.refl 189) ?_
    refine kx_iload dX1_init_189 (Eq.refl 190) rfl ?_
    refine kx_callI (kc := kc + r * 1) (ks := ks + r * 13) (st := [.ref σ.1.1, iv (k : Int), .ref a]) (mX10_init hl (xnew σ (.inl 10)) σ.1.1 (Nat.lt_succ_self _) (if_pos rfl) k (show σ.1.1 + 1 + 1 < xSCR by omega)) bX10_init xq_84 rfl (by decide) (Nat.le_of_ble_eq_true rfl) dX1_init_190 (Eq.refl 193) rfl (by omega) (by omega) (xok_c (Or.inl (Nat.lt_succ_self _)) (xok_c trivial (xok_c (Or.inl (show a < σ.1.1 + 1 by omega)) xok_nil))) hls2 ?_
    have hf : kfr (· = a) n1 σ (kObj (fun k c => k10 c k) 10 a k σ) := kfr_obj h1 (fun τ h c hc => kfr_k10 (c := c) (i := k) (σ := τ) h)
    have hta : (k10 σ.1.1 k (xnew σ (.inl 10))).1.2.1 a = .inr (6, 21) := (hf.2.2.1 a hla).trans ha
    have htn : (k10 σ.1.1 k (xnew σ (.inl 10))).1.2.1 σ.1.1 = .inl 10 := by
      exact if_pos rfl
    refine kx_aast (k := k) hta (by decide) (by decide) rfl xcl10 htn rfl (by omega) (by decide) dX1_init_193 (Eq.refl 194) ?_
    refine kx_iinc (ls2 := [some (.ref c), some (.ref mail), some (iv ((k + 1 : Nat) : Int))]) dX1_init_194 (Eq.refl 197) rfl (by decide) rfl ?_
    refine kx_goto (tgt := 171) dX1_init_197 (by decide) ?_
    exact ih (k + 1) (kObj (fun k c => k10 c k) 10 a k σ) (by omega) (Nat.le_trans h1 hf.2.1) ((hf.2.2.1 c hlt).trans hc) ((hf.2.2.1 a hla).trans ha) ((congrFun (hf.2.2.2 c hlt hca) 4).trans hr) (by show σ.1.1 + 1 + r * 1 + 1 < xSCR; omega) K
theorem gk_202 {l : Launch} {G : xG} {Qr : Option Value → xS → Prop} {Qx : Nat → xS → Prop} (hl : l.stackTraces = false) (c mail a n1 kc ks : Nat) (hlt : c < n1) (hla : a < n1) (hlm : mail < n1) (hca : c ≠ a) : ∀ (r k : Nat) (σ : xS), r + k = 11 → n1 ≤ σ.1.1 → σ.1.2.1 c = .inl 1 → σ.1.2.1 a = .inr (7, 11) → σ.1.2.2 c 5 = some a → σ.1.1 + r * 1 + 1 < xSCR →
    (∀ z : Int, Ev l G uX1_init 2 Qr Qx kc ks 230 [some (.ref c), some (.ref mail), some (iv z)] [] (kLoop (kObj (fun _ _ τ => τ) 6 a) r k σ)) → Ev l G uX1_init 2 Qr Qx (kc + r * 1) (ks + r * 3) 202 [some (.ref c), some (.ref mail), some (iv (k : Int))] [] σ := by
  intro r; induction r with
  | zero =>
    intro k σ hk h1 hc ha hr hN K
    refine kx_iload dX1_init_202 (Eq.refl 203) rfl ?_
    refine kx_aload dX1_init_203 (Eq.refl 204) rfl ?_
    refine kx_getR (k := 5) xcl1 hc rfl xq_46 rfl hr dX1_init_204 (Eq.refl 207) ?_
    refine kx_alen ha (by decide) dX1_init_207 (Eq.refl 208) ?_
    refine kx_ge (tgt := 230) dX1_init_208 (Eq.refl 211) (by decide) (by omega) (by decide) (fun _ => ?_) (fun z => absurd z (by omega))
    exact xv_room (by omega) (by omega) (K (k : Int))
  | succ r ih =>
    intro k σ hk h1 hc ha hr hN K
    refine kx_iload dX1_init_202 (Eq.refl 203) rfl ?_
    refine kx_aload dX1_init_203 (Eq.refl 204) rfl ?_
    refine kx_getR (k := 5) xcl1 hc rfl xq_46 rfl hr dX1_init_204 (Eq.refl 207) ?_
    refine kx_alen ha (by decide) dX1_init_207 (Eq.refl 208) ?_
    refine kx_ge (tgt := 230) dX1_init_208 (Eq.refl 211) (by decide) (by omega) (by decide) (fun z => absurd z (by omega)) (fun _ => ?_)
    refine kx_aload dX1_init_211 (Eq.refl 212) rfl ?_
    refine kx_getR (k := 5) xcl1 hc rfl xq_46 rfl hr dX1_init_212 (Eq.refl 215) ?_
    refine kx_iload dX1_init_215 (Eq.refl 216) rfl ?_
    have hls : ∀ v, some v ∈ [some (.ref c), some (.ref mail), some (iv (k : Int))] → xokv σ.1.1 v := xol_s (Or.inl (Nat.lt_of_lt_of_le hlt h1)) (xol_s (Or.inl (Nat.lt_of_lt_of_le hlm h1)) (xol_s trivial xol_nil))
    have hls2 : ∀ v, some v ∈ [some (.ref c), some (.ref mail), some (iv (k : Int))] → xokv (σ.1.1 + 1) v := xol_s (Or.inl (show c < σ.1.1 + 1 by omega)) (xol_s (Or.inl (show mail < σ.1.1 + 1 by omega)) (xol_s trivial xol_nil))
    refine kx_new (kc := kc + r * 1 + 0) (ks := ks + r * 3 + 0) xcl6 tyX6 tyX6_ok (by decide +kernel) xq_45 xq_62 xq_63 dX1_init_216 (Eq.refl 219) (by omega) (by omega) (by omega) (xok_c trivial (xok_c (Or.inl (Nat.lt_of_lt_of_le hla h1)) xok_nil)) hls ?_
    refine kx_dup dX1_init_219 (Eq.refl 220) ?_
    refine kx_callIN (kc := kc + r * 1) (ks := ks + r * 3) (st := [.ref σ.1.1, iv (k : Int), .ref a]) (mX6_init hl (xnew σ (.inl 6)) σ.1.1 (Nat.lt_succ_self _) (if_pos rfl) (show σ.1.1 + 1 + 1 < xSCR by omega)) bX6_init (fun U h => h.2.2.2.2.2.2.2.2.2.2.2.2.1) rfl (by decide) (Nat.le_of_ble_eq_true rfl) dX1_init_220 (Eq.refl 223) rfl (by omega) (by omega) (xok_c (Or.inl (Nat.lt_succ_self _)) (xok_c trivial (xok_c (Or.inl (show a < σ.1.1 + 1 by omega)) xok_nil))) hls2 ?_
    have hf : kfr (· = a) n1 σ (kObj (fun _ _ τ => τ) 6 a k σ) := kfr_obj h1 (fun τ h c hc => kfr.rf h)
    have hta : (xnew σ (.inl 6)).1.2.1 a = .inr (7, 11) := (hf.2.2.1 a hla).trans ha
    have htn : (xnew σ (.inl 6)).1.2.1 σ.1.1 = .inl 6 := by
      exact if_pos rfl
    refine kx_aast (k := k) hta (by decide) (by decide) rfl xcl6 htn rfl (by omega) (by decide) dX1_init_223 (Eq.refl 224) ?_
    refine kx_iinc (ls2 := [some (.ref c), some (.ref mail), some (iv ((k + 1 : Nat) : Int))]) dX1_init_224 (Eq.refl 227) rfl (by decide) rfl ?_
    refine kx_goto (tgt := 202) dX1_init_227 (by decide) ?_
    exact ih (k + 1) (kObj (fun _ _ τ => τ) 6 a k σ) (by omega) (Nat.le_trans h1 hf.2.1) ((hf.2.2.1 c hlt).trans hc) ((hf.2.2.1 a hla).trans ha) ((congrFun (hf.2.2.2 c hlt hca) 5).trans hr) (by show σ.1.1 + 1 + r * 1 + 1 < xSCR; omega) K
theorem gk_232 {l : Launch} {G : xG} {Qr : Option Value → xS → Prop} {Qx : Nat → xS → Prop} (hl : l.stackTraces = false) (c mail a n1 kc ks : Nat) (hlt : c < n1) (hla : a < n1) (hlm : mail < n1) (hca : c ≠ a) : ∀ (r k : Nat) (σ : xS), r + k = 21 → n1 ≤ σ.1.1 → σ.1.2.1 c = .inl 1 → σ.1.2.1 a = .inr (8, 21) → σ.1.2.2 c 6 = some a → σ.1.1 + r * 1 + 1 < xSCR →
    (∀ z : Int, Ev l G uX1_init 2 Qr Qx kc ks 260 [some (.ref c), some (.ref mail), some (iv z)] [] (kLoop (kObj (fun _ _ τ => τ) 7 a) r k σ)) → Ev l G uX1_init 2 Qr Qx (kc + r * 1) (ks + r * 7) 232 [some (.ref c), some (.ref mail), some (iv (k : Int))] [] σ := by
  intro r; induction r with
  | zero =>
    intro k σ hk h1 hc ha hr hN K
    refine kx_iload dX1_init_232 (Eq.refl 233) rfl ?_
    refine kx_aload dX1_init_233 (Eq.refl 234) rfl ?_
    refine kx_getR (k := 6) xcl1 hc rfl xq_48 rfl hr dX1_init_234 (Eq.refl 237) ?_
    refine kx_alen ha (by decide) dX1_init_237 (Eq.refl 238) ?_
    refine kx_ge (tgt := 260) dX1_init_238 (Eq.refl 241) (by decide) (by omega) (by decide) (fun _ => ?_) (fun z => absurd z (by omega))
    exact xv_room (by omega) (by omega) (K (k : Int))
  | succ r ih =>
    intro k σ hk h1 hc ha hr hN K
    refine kx_iload dX1_init_232 (Eq.refl 233) rfl ?_
    refine kx_aload dX1_init_233 (Eq.refl 234) rfl ?_
    refine kx_getR (k := 6) xcl1 hc rfl xq_48 rfl hr dX1_init_234 (Eq.refl 237) ?_
    refine kx_alen ha (by decide) dX1_init_237 (Eq.refl 238) ?_
    refine kx_ge (tgt := 260) dX1_init_238 (Eq.refl 241) (by decide) (by omega) (by decide) (fun z => absurd z (by omega)) (fun _ => ?_)
    refine kx_aload dX1_init_241 (Eq.refl 242) rfl ?_
    refine kx_getR (k := 6) xcl1 hc rfl xq_48 rfl hr dX1_init_242 (Eq.refl 245) ?_
    refine kx_iload dX1_init_245 (Eq.refl 246) rfl ?_
    have hls : ∀ v, some v ∈ [some (.ref c), some (.ref mail), some (iv (k : Int))] → xokv σ.1.1 v := xol_s (Or.inl (Nat.lt_of_lt_of_le hlt h1)) (xol_s (Or.inl (Nat.lt_of_lt_of_le hlm h1)) (xol_s trivial xol_nil))
    have hls2 : ∀ v, some v ∈ [some (.ref c), some (.ref mail), some (iv (k : Int))] → xokv (σ.1.1 + 1) v := xol_s (Or.inl (show c < σ.1.1 + 1 by omega)) (xol_s (Or.inl (show mail < σ.1.1 + 1 by omega)) (xol_s trivial xol_nil))
    refine kx_new (kc := kc + r * 1 + 0) (ks := ks + r * 7 + 0) xcl7 tyX7 tyX7_ok (by decide +kernel) xq_47 xq_64 xq_65 dX1_init_246 (Eq.refl 249) (by omega) (by omega) (by omega) (xok_c trivial (xok_c (Or.inl (Nat.lt_of_lt_of_le hla h1)) xok_nil)) hls ?_
    refine kx_dup dX1_init_249 (Eq.refl 250) ?_
    refine kx_callIN (kc := kc + r * 1) (ks := ks + r * 7) (st := [.ref σ.1.1, iv (k : Int), .ref a]) (mX7_init hl (xnew σ (.inl 7)) σ.1.1 (Nat.lt_succ_self _) (if_pos rfl) (show σ.1.1 + 1 + 1 < xSCR by omega)) bX7_init (fun U h => h.2.2.2.2.2.2.2.2.2.2.2.2.2.1) rfl (by decide) (Nat.le_of_ble_eq_true rfl) dX1_init_250 (Eq.refl 253) rfl (by omega) (by omega) (xok_c (Or.inl (Nat.lt_succ_self _)) (xok_c trivial (xok_c (Or.inl (show a < σ.1.1 + 1 by omega)) xok_nil))) hls2 ?_
    have hf : kfr (· = a) n1 σ (kObj (fun _ _ τ => τ) 7 a k σ) := kfr_obj h1 (fun τ h c hc => kfr.rf h)
    have hta : (xnew σ (.inl 7)).1.2.1 a = .inr (8, 21) := (hf.2.2.1 a hla).trans ha
    have htn : (xnew σ (.inl 7)).1.2.1 σ.1.1 = .inl 7 := by
      exact if_pos rfl
    refine kx_aast (k := k) hta (by decide) (by decide) rfl xcl7 htn rfl (by omega) (by decide) dX1_init_253 (Eq.refl 254) ?_
    refine kx_iinc (ls2 := [some (.ref c), some (.ref mail), some (iv ((k + 1 : Nat) : Int))]) dX1_init_254 (Eq.refl 257) rfl (by decide) rfl ?_
    refine kx_goto (tgt := 232) dX1_init_257 (by decide) ?_
    exact ih (k + 1) (kObj (fun _ _ τ => τ) 7 a k σ) (by omega) (Nat.le_trans h1 hf.2.1) ((hf.2.2.1 c hlt).trans hc) ((hf.2.2.1 a hla).trans ha) ((congrFun (hf.2.2.2 c hlt hca) 6).trans hr) (by show σ.1.1 + 1 + r * 1 + 1 < xSCR; omega) K
theorem gk_262 {l : Launch} {G : xG} {Qr : Option Value → xS → Prop} {Qx : Nat → xS → Prop} (hl : l.stackTraces = false) (c mail a n1 kc ks : Nat) (hlt : c < n1) (hla : a < n1) (hlm : mail < n1) (hca : c ≠ a) : ∀ (r k : Nat) (σ : xS), r + k = 11 → n1 ≤ σ.1.1 → σ.1.2.1 c = .inl 1 → σ.1.2.1 a = .inr (9, 11) → σ.1.2.2 c 7 = some a → σ.1.1 + r * 4 + 1 < xSCR →
    (∀ z : Int, Ev l G uX1_init 2 Qr Qx kc ks 290 [some (.ref c), some (.ref mail), some (iv z)] [] (kLoop (kObj (fun _ => k4) 4 a) r k σ)) → Ev l G uX1_init 2 Qr Qx (kc + r * 4) (ks + r * 53) 262 [some (.ref c), some (.ref mail), some (iv (k : Int))] [] σ := by
  intro r; induction r with
  | zero =>
    intro k σ hk h1 hc ha hr hN K
    refine kx_iload dX1_init_262 (Eq.refl 263) rfl ?_
    refine kx_aload dX1_init_263 (Eq.refl 264) rfl ?_
    refine kx_getR (k := 7) xcl1 hc rfl xq_50 rfl hr dX1_init_264 (Eq.refl 267) ?_
    refine kx_alen ha (by decide) dX1_init_267 (Eq.refl 268) ?_
    refine kx_ge (tgt := 290) dX1_init_268 (Eq.refl 271) (by decide) (by omega) (by decide) (fun _ => ?_) (fun z => absurd z (by omega))
    exact xv_room (by omega) (by omega) (K (k : Int))
  | succ r ih =>
    intro k σ hk h1 hc ha hr hN K
    refine kx_iload dX1_init_262 (Eq.refl 263) rfl ?_
    refine kx_aload dX1_init_263 (Eq.refl 264) rfl ?_
    refine kx_getR (k := 7) xcl1 hc rfl xq_50 rfl hr dX1_init_264 (Eq.refl 267) ?_
    refine kx_alen ha (by decide) dX1_init_267 (Eq.refl 268) ?_
    refine kx_ge (tgt := 290) dX1_init_268 (Eq.refl 271) (by decide) (by omega) (by decide) (fun z => absurd z (by omega)) (fun _ => ?_)
    refine kx_aload dX1_init_271 (Eq.refl 272) rfl ?_
    refine kx_getR (k := 7) xcl1 hc rfl xq_50 rfl hr dX1_init_272 (Eq.refl 275) ?_
    refine kx_iload dX1_init_275 (Eq.refl 276) rfl ?_
    have hls : ∀ v, some v ∈ [some (.ref c), some (.ref mail), some (iv (k : Int))] → xokv σ.1.1 v := xol_s (Or.inl (Nat.lt_of_lt_of_le hlt h1)) (xol_s (Or.inl (Nat.lt_of_lt_of_le hlm h1)) (xol_s trivial xol_nil))
    have hls2 : ∀ v, some v ∈ [some (.ref c), some (.ref mail), some (iv (k : Int))] → xokv (σ.1.1 + 1) v := xol_s (Or.inl (show c < σ.1.1 + 1 by omega)) (xol_s (Or.inl (show mail < σ.1.1 + 1 by omega)) (xol_s trivial xol_nil))
    refine kx_new (kc := kc + r * 4 + 3) (ks := ks + r * 53 + 40) xcl4 tyX4 tyX4_ok (by decide +kernel) xq_49 xq_66 xq_67 dX1_init_276 (Eq.refl 279) (by omega) (by omega) (by omega) (xok_c trivial (xok_c (Or.inl (Nat.lt_of_lt_of_le hla h1)) xok_nil)) hls ?_
    refine kx_dup dX1_init_279 (Eq.refl 280) ?_
    refine kx_callIN (kc := kc + r * 4) (ks := ks + r * 53) (st := [.ref σ.1.1, iv (k : Int), .ref a]) (mX4_init hl (xnew σ (.inl 4)) σ.1.1 (Nat.lt_succ_self _) (if_pos rfl) (show σ.1.1 + 1 + 4 < xSCR by omega)) bX4_init (fun U h => h.2.2.2.2.2.2.2.2.2.2.2.2.2.2.1) rfl (by decide) (Nat.le_of_ble_eq_true rfl) dX1_init_280 (Eq.refl 283) rfl (by omega) (by omega) (xok_c (Or.inl (Nat.lt_succ_self _)) (xok_c trivial (xok_c (Or.inl (show a < σ.1.1 + 1 by omega)) xok_nil))) hls2 ?_
    have hf : kfr (· = a) n1 σ (kObj (fun _ => k4) 4 a k σ) := kfr_obj h1 (fun τ h c hc => kfr_k4 h hc)
    have hta : (k4 σ.1.1 (xnew σ (.inl 4))).1.2.1 a = .inr (9, 11) := (hf.2.2.1 a hla).trans ha
    have htn : (k4 σ.1.1 (xnew σ (.inl 4))).1.2.1 σ.1.1 = .inl 4 := by
      exact (k4_own (Nat.lt_succ_self _)).trans (if_pos rfl)
    refine kx_aast (k := k) hta (by decide) (by decide) rfl xcl4 htn rfl (by omega) (by decide) dX1_init_283 (Eq.refl 284) ?_
    refine kx_iinc (ls2 := [some (.ref c), some (.ref mail), some (iv ((k + 1 : Nat) : Int))]) dX1_init_284 (Eq.refl 287) rfl (by decide) rfl ?_
    refine kx_goto (tgt := 262) dX1_init_287 (by decide) ?_
    exact ih (k + 1) (kObj (fun _ => k4) 4 a k σ) (by omega) (Nat.le_trans h1 hf.2.1) ((hf.2.2.1 c hlt).trans hc) ((hf.2.2.1 a hla).trans ha) ((congrFun (hf.2.2.2 c hlt hca) 7).trans hr) (by show σ.1.1 + 4 + r * 4 + 1 < xSCR; omega) K
theorem gk_292 {l : Launch} {G : xG} {Qr : Option Value → xS → Prop} {Qx : Nat → xS → Prop} (c mail a kc ks : Nat) : ∀ (r k : Nat) (σ : xS), r + k = 9 → σ.1.2.1 c = .inl 1 → σ.1.2.1 a = .inr (1, 9) → σ.1.2.2 c 8 = some a →
    (∀ z : Int, Ev l G uX1_init 2 Qr Qx kc ks 316 [some (.ref c), some (.ref mail), some (iv z)] [] (kLoop (fun k => kPut a k 15) r k σ)) → Ev l G uX1_init 2 Qr Qx kc ks 292 [some (.ref c), some (.ref mail), some (iv (k : Int))] [] σ := by
  intro r; induction r with
  | zero =>
    intro k σ hk hc ha hr K
    refine kx_iload dX1_init_292 (Eq.refl 293) rfl ?_
    refine kx_aload dX1_init_293 (Eq.refl 294) rfl ?_
    refine kx_getR (k := 8) xcl1 hc rfl xq_52 rfl hr dX1_init_294 (Eq.refl 297) ?_
    refine kx_alen ha (by decide) dX1_init_297 (Eq.refl 298) ?_
    refine kx_ge (tgt := 316) dX1_init_298 (Eq.refl 301) (by decide) (by omega) (by decide) (fun _ => ?_) (fun z => absurd z (by omega))
    exact K (k : Int)
  | succ r ih =>
    intro k σ hk hc ha hr K
    refine kx_iload dX1_init_292 (Eq.refl 293) rfl ?_
    refine kx_aload dX1_init_293 (Eq.refl 294) rfl ?_
    refine kx_getR (k := 8) xcl1 hc rfl xq_52 rfl hr dX1_init_294 (Eq.refl 297) ?_
    refine kx_alen ha (by decide) dX1_init_297 (Eq.refl 298) ?_
    refine kx_ge (tgt := 316) dX1_init_298 (Eq.refl 301) (by decide) (by omega) (by decide) (fun z => absurd z (by omega)) (fun _ => ?_)
    refine kx_aload dX1_init_301 (Eq.refl 302) rfl ?_
    refine kx_getR (k := 8) xcl1 hc rfl xq_52 rfl hr dX1_init_302 (Eq.refl 305) ?_
    refine kx_iload dX1_init_305 (Eq.refl 306) rfl ?_
    refine kx_ldc2 (z := 15) xq_68 dX1_init_306 (Eq.refl 309) (by decide +kernel) ?_
    refine kx_last (k := k) ha rfl (by omega) (by decide) dX1_init_309 (Eq.refl 310) ?_
    refine kx_iinc (ls2 := [some (.ref c), some (.ref mail), some (iv ((k + 1 : Nat) : Int))]) dX1_init_310 (Eq.refl 313) rfl (by decide) rfl ?_
    refine kx_goto (tgt := 292) dX1_init_313 (by decide) ?_
    exact ih (k + 1) (kPut a k 15 σ) (by omega) hc ha hr K
theorem gk_b7 {l : Launch} {G : xG} {Qx : Nat → xS → Prop} (hl : l.stackTraces = false) (S : xS) (c mail n0 : Nat) (z : Int) (hlt : c < n0) (hlm : mail < n0) (hn : S.1.1 = n0 + 195) (hN : n0 + 200 < xSCR) (hc : S.1.2.1 c = .inl 1) (ht7 : S.1.2.1 (n0 + 7) = .inr (1, 9)) (hr7 : S.1.2.2 c 8 = some (n0 + 7)) :
    Ev l G uX1_init 2 (fun v σ' => v = none ∧ σ' = k1b7 n0 S) Qx 0 0 290 [some (.ref c), some (.ref mail), some (iv z)] [] S := by
  refine kx_iconst dX1_init_290 (Eq.refl 291) ?_
  refine kx_istore (ls2 := [some (.ref c), some (.ref mail), some (iv ((0 : Nat) : Int))]) dX1_init_291 (Eq.refl 292) (by decide) rfl ?_
  refine gk_292 c mail (n0 + 7) 0 0 9 0 S rfl hc ht7 hr7 (fun z => ?_)
  exact kx_vret rfl dX1_init_316 rfl
theorem gk_b6 {l : Launch} {G : xG} {Qx : Nat → xS → Prop} (hl : l.stackTraces = false) (S : xS) (c mail n0 : Nat) (z : Int) (hlt : c < n0) (hlm : mail < n0) (hn : S.1.1 = n0 + 151) (hN : n0 + 200 < xSCR) (hc : S.1.2.1 c = .inl 1) (ht6 : S.1.2.1 (n0 + 6) = .inr (9, 11)) (hr6 : S.1.2.2 c 7 = some (n0 + 6)) (ht7 : S.1.2.1 (n0 + 7) = .inr (1, 9)) (hr7 : S.1.2.2 c 8 = some (n0 + 7)) :
    Ev l G uX1_init 2 (fun v σ' => v = none ∧ σ' = k1b6 n0 S) Qx 44 583 260 [some (.ref c), some (.ref mail), some (iv z)] [] S := by
  refine kx_iconst dX1_init_260 (Eq.refl 261) ?_
  refine kx_istore (ls2 := [some (.ref c), some (.ref mail), some (iv ((0 : Nat) : Int))]) dX1_init_261 (Eq.refl 262) (by decide) rfl ?_
  have f : kfr (· = n0 + 6) (n0 + 8) S (kLoop (kObj (fun _ => k4) 4 (n0 + 6)) 11 0 S) := kfr_loop (fun k τ h => kfr_obj h (fun τ h c hc => kfr_k4 h hc)) 11 0 S (by omega)
  have hn2 : (kLoop (kObj (fun _ => k4) 4 (n0 + 6)) 11 0 S).1.1 = n0 + 195 := (kn_loop (s := 4) (f := (kObj (fun _ => k4) 4 (n0 + 6))) (fun k τ => rfl) 11 0 S).trans (by omega)
  refine xv_room (kc' := 0 + 11 * 4) (ks' := 0 + 11 * 53) (by decide) (by decide) ?_
  refine gk_262 hl c mail (n0 + 6) (n0 + 8) 0 0 (by omega) (by omega) (by omega) (by omega) 11 0 S rfl (by omega) hc ht6 hr6 (by omega) (fun z => ?_)
  exact gk_b7 hl (kLoop (kObj (fun _ => k4) 4 (n0 + 6)) 11 0 S) c mail n0 z hlt hlm hn2 hN ((f.2.2.1 c (by omega)).trans hc) ((f.2.2.1 (n0 + 7) (by omega)).trans ht7) ((congrFun (f.2.2.2 c (by omega) (by omega)) 8).trans hr7)
theorem gk_b5 {l : Launch} {G : xG} {Qx : Nat → xS → Prop} (hl : l.stackTraces = false) (S : xS) (c mail n0 : Nat) (z : Int) (hlt : c < n0) (hlm : mail < n0) (hn : S.1.1 = n0 + 130) (hN : n0 + 200 < xSCR) (hc : S.1.2.1 c = .inl 1) (ht5 : S.1.2.1 (n0 + 5) = .inr (8, 21)) (hr5 : S.1.2.2 c 6 = some (n0 + 5)) (ht6 : S.1.2.1 (n0 + 6) = .inr (9, 11)) (hr6 : S.1.2.2 c 7 = some (n0 + 6)) (ht7 : S.1.2.1 (n0 + 7) = .inr (1, 9)) (hr7 : S.1.2.2 c 8 = some (n0 + 7)) :
    Ev l G uX1_init 2 (fun v σ' => v = none ∧ σ' = k1b5 n0 S) Qx 65 730 230 [some (.ref c), some (.ref mail), some (iv z)] [] S := by
  refine kx_iconst dX1_init_230 (Eq.refl 231) ?_
  refine kx_istore (ls2 := [some (.ref c), some (.ref mail), some (iv ((0 : Nat) : Int))]) dX1_init_231 (Eq.refl 232) (by decide) rfl ?_
  have f : kfr (· = n0 + 5) (n0 + 8) S (kLoop (kObj (fun _ _ τ => τ) 7 (n0 + 5)) 21 0 S) := kfr_loop (fun k τ h => kfr_obj h (fun τ h c hc => kfr.rf h)) 21 0 S (by omega)
  have hn2 : (kLoop (kObj (fun _ _ τ => τ) 7 (n0 + 5)) 21 0 S).1.1 = n0 + 151 := (kn_loop (s := 1) (f := (kObj (fun _ _ τ => τ) 7 (n0 + 5))) (fun k τ => rfl) 21 0 S).trans (by omega)
  refine xv_room (kc' := 44 + 21 * 1) (ks' := 583 + 21 * 7) (by decide) (by decide) ?_
  refine gk_232 hl c mail (n0 + 5) (n0 + 8) 44 583 (by omega) (by omega) (by omega) (by omega) 21 0 S rfl (by omega) hc ht5 hr5 (by omega) (fun z => ?_)
  exact gk_b6 hl (kLoop (kObj (fun _ _ τ => τ) 7 (n0 + 5)) 21 0 S) c mail n0 z hlt hlm hn2 hN ((f.2.2.1 c (by omega)).trans hc) ((f.2.2.1 (n0 + 6) (by omega)).trans ht6) ((congrFun (f.2.2.2 c (by omega) (by omega)) 7).trans hr6) ((f.2.2.1 (n0 + 7) (by omega)).trans ht7) ((congrFun (f.2.2.2 c (by omega) (by omega)) 8).trans hr7)
theorem gk_b4 {l : Launch} {G : xG} {Qx : Nat → xS → Prop} (hl : l.stackTraces = false) (S : xS) (c mail n0 : Nat) (z : Int) (hlt : c < n0) (hlm : mail < n0) (hn : S.1.1 = n0 + 119) (hN : n0 + 200 < xSCR) (hc : S.1.2.1 c = .inl 1) (ht4 : S.1.2.1 (n0 + 4) = .inr (7, 11)) (hr4 : S.1.2.2 c 5 = some (n0 + 4)) (ht5 : S.1.2.1 (n0 + 5) = .inr (8, 21)) (hr5 : S.1.2.2 c 6 = some (n0 + 5)) (ht6 : S.1.2.1 (n0 + 6) = .inr (9, 11)) (hr6 : S.1.2.2 c 7 = some (n0 + 6)) (ht7 : S.1.2.1 (n0 + 7) = .inr (1, 9)) (hr7 : S.1.2.2 c 8 = some (n0 + 7)) :
    Ev l G uX1_init 2 (fun v σ' => v = none ∧ σ' = k1b4 n0 S) Qx 76 763 200 [some (.ref c), some (.ref mail), some (iv z)] [] S := by
  refine kx_iconst dX1_init_200 (Eq.refl 201) ?_
  refine kx_istore (ls2 := [some (.ref c), some (.ref mail), some (iv ((0 : Nat) : Int))]) dX1_init_201 (Eq.refl 202) (by decide) rfl ?_
  have f : kfr (· = n0 + 4) (n0 + 8) S (kLoop (kObj (fun _ _ τ => τ) 6 (n0 + 4)) 11 0 S) := kfr_loop (fun k τ h => kfr_obj h (fun τ h c hc => kfr.rf h)) 11 0 S (by omega)
  have hn2 : (kLoop (kObj (fun _ _ τ => τ) 6 (n0 + 4)) 11 0 S).1.1 = n0 + 130 := (kn_loop (s := 1) (f := (kObj (fun _ _ τ => τ) 6 (n0 + 4))) (fun k τ => rfl) 11 0 S).trans (by omega)
  refine xv_room (kc' := 65 + 11 * 1) (ks' := 730 + 11 * 3) (by decide) (by decide) ?_
  refine gk_202 hl c mail (n0 + 4) (n0 + 8) 65 730 (by omega) (by omega) (by omega) (by omega) 11 0 S rfl (by omega) hc ht4 hr4 (by omega) (fun z => ?_)
  exact gk_b5 hl (kLoop (kObj (fun _ _ τ => τ) 6 (n0 + 4)) 11 0 S) c mail n0 z hlt hlm hn2 hN ((f.2.2.1 c (by omega)).trans hc) ((f.2.2.1 (n0 + 5) (by omega)).trans ht5) ((congrFun (f.2.2.2 c (by omega) (by omega)) 6).trans hr5) ((f.2.2.1 (n0 + 6) (by omega)).trans ht6) ((congrFun (f.2.2.2 c (by omega) (by omega)) 7).trans hr6) ((f.2.2.1 (n0 + 7) (by omega)).trans ht7) ((congrFun (f.2.2.2 c (by omega) (by omega)) 8).trans hr7)
theorem gk_b3 {l : Launch} {G : xG} {Qx : Nat → xS → Prop} (hl : l.stackTraces = false) (S : xS) (c mail n0 : Nat) (z : Int) (hlt : c < n0) (hlm : mail < n0) (hn : S.1.1 = n0 + 98) (hN : n0 + 200 < xSCR) (hc : S.1.2.1 c = .inl 1) (ht3 : S.1.2.1 (n0 + 3) = .inr (6, 21)) (hr3 : S.1.2.2 c 4 = some (n0 + 3)) (ht4 : S.1.2.1 (n0 + 4) = .inr (7, 11)) (hr4 : S.1.2.2 c 5 = some (n0 + 4)) (ht5 : S.1.2.1 (n0 + 5) = .inr (8, 21)) (hr5 : S.1.2.2 c 6 = some (n0 + 5)) (ht6 : S.1.2.1 (n0 + 6) = .inr (9, 11)) (hr6 : S.1.2.2 c 7 = some (n0 + 6)) (ht7 : S.1.2.1 (n0 + 7) = .inr (1, 9)) (hr7 : S.1.2.2 c 8 = some (n0 + 7)) :
    Ev l G uX1_init 2 (fun v σ' => v = none ∧ σ' = k1b3 n0 S) Qx 97 1036 169 [some (.ref c), some (.ref mail), some (iv z)] [] S := by
  refine kx_iconst dX1_init_169 (Eq.refl 170) ?_
  refine kx_istore (ls2 := [some (.ref c), some (.ref mail), some (iv ((0 : Nat) : Int))]) dX1_init_170 (Eq.refl 171) (by decide) rfl ?_
  have f : kfr (· = n0 + 3) (n0 + 8) S (kLoop (kObj (fun k c => k10 c k) 10 (n0 + 3)) 21 0 S) := kfr_loop (fun k τ h => kfr_obj h (fun τ h c hc => kfr_k10 (c := c) (i := k) (σ := τ) h)) 21 0 S (by omega)
  have hn2 : (kLoop (kObj (fun k c => k10 c k) 10 (n0 + 3)) 21 0 S).1.1 = n0 + 119 := (kn_loop (s := 1) (f := (kObj (fun k c => k10 c k) 10 (n0 + 3))) (fun k τ => rfl) 21 0 S).trans (by omega)
  refine xv_room (kc' := 76 + 21 * 1) (ks' := 763 + 21 * 13) (by decide) (by decide) ?_
  refine gk_171 hl c mail (n0 + 3) (n0 + 8) 76 763 (by omega) (by omega) (by omega) (by omega) 21 0 S rfl (by omega) hc ht3 hr3 (by omega) (fun z => ?_)
  exact gk_b4 hl (kLoop (kObj (fun k c => k10 c k) 10 (n0 + 3)) 21 0 S) c mail n0 z hlt hlm hn2 hN ((f.2.2.1 c (by omega)).trans hc) ((f.2.2.1 (n0 + 4) (by omega)).trans ht4) ((congrFun (f.2.2.2 c (by omega) (by omega)) 5).trans hr4) ((f.2.2.1 (n0 + 5) (by omega)).trans ht5) ((congrFun (f.2.2.2 c (by omega) (by omega)) 6).trans hr5) ((f.2.2.1 (n0 + 6) (by omega)).trans ht6) ((congrFun (f.2.2.2 c (by omega) (by omega)) 7).trans hr6) ((f.2.2.1 (n0 + 7) (by omega)).trans ht7) ((congrFun (f.2.2.2 c (by omega) (by omega)) 8).trans hr7)
theorem gk_b2 {l : Launch} {G : xG} {Qx : Nat → xS → Prop} (hl : l.stackTraces = false) (S : xS) (c mail n0 : Nat) (z : Int) (hlt : c < n0) (hlm : mail < n0) (hn : S.1.1 = n0 + 57) (hN : n0 + 200 < xSCR) (hc : S.1.2.1 c = .inl 1) (ht2 : S.1.2.1 (n0 + 2) = .inr (5, 41)) (hr2 : S.1.2.2 c 3 = some (n0 + 2)) (ht3 : S.1.2.1 (n0 + 3) = .inr (6, 21)) (hr3 : S.1.2.2 c 4 = some (n0 + 3)) (ht4 : S.1.2.1 (n0 + 4) = .inr (7, 11)) (hr4 : S.1.2.2 c 5 = some (n0 + 4)) (ht5 : S.1.2.1 (n0 + 5) = .inr (8, 21)) (hr5 : S.1.2.2 c 6 = some (n0 + 5)) (ht6 : S.1.2.1 (n0 + 6) = .inr (9, 11)) (hr6 : S.1.2.2 c 7 = some (n0 + 6)) (ht7 : S.1.2.1 (n0 + 7) = .inr (1, 9)) (hr7 : S.1.2.2 c 8 = some (n0 + 7)) :
    Ev l G uX1_init 2 (fun v σ' => v = none ∧ σ' = k1b2 n0 S) Qx 138 1569 139 [some (.ref c), some (.ref mail), some (iv z)] [] S := by
  refine kx_iconst dX1_init_139 (Eq.refl 140) ?_
  refine kx_istore (ls2 := [some (.ref c), some (.ref mail), some (iv ((0 : Nat) : Int))]) dX1_init_140 (Eq.refl 141) (by decide) rfl ?_
  have f : kfr (· = n0 + 2) (n0 + 8) S (kLoop (kObj (fun _ => k5) 5 (n0 + 2)) 41 0 S) := kfr_loop (fun k τ h => kfr_obj h (fun τ h c hc => kfr_k5 h)) 41 0 S (by omega)
  have hn2 : (kLoop (kObj (fun _ => k5) 5 (n0 + 2)) 41 0 S).1.1 = n0 + 98 := (kn_loop (s := 1) (f := (kObj (fun _ => k5) 5 (n0 + 2))) (fun k τ => rfl) 41 0 S).trans (by omega)
  refine xv_room (kc' := 97 + 41 * 1) (ks' := 1036 + 41 * 13) (by decide) (by decide) ?_
  refine gk_141 hl c mail (n0 + 2) (n0 + 8) 97 1036 (by omega) (by omega) (by omega) (by omega) 41 0 S rfl (by omega) hc ht2 hr2 (by omega) (fun z => ?_)
  exact gk_b3 hl (kLoop (kObj (fun _ => k5) 5 (n0 + 2)) 41 0 S) c mail n0 z hlt hlm hn2 hN ((f.2.2.1 c (by omega)).trans hc) ((f.2.2.1 (n0 + 3) (by omega)).trans ht3) ((congrFun (f.2.2.2 c (by omega) (by omega)) 4).trans hr3) ((f.2.2.1 (n0 + 4) (by omega)).trans ht4) ((congrFun (f.2.2.2 c (by omega) (by omega)) 5).trans hr4) ((f.2.2.1 (n0 + 5) (by omega)).trans ht5) ((congrFun (f.2.2.2 c (by omega) (by omega)) 6).trans hr5) ((f.2.2.1 (n0 + 6) (by omega)).trans ht6) ((congrFun (f.2.2.2 c (by omega) (by omega)) 7).trans hr6) ((f.2.2.1 (n0 + 7) (by omega)).trans ht7) ((congrFun (f.2.2.2 c (by omega) (by omega)) 8).trans hr7)
theorem gk_b1 {l : Launch} {G : xG} {Qx : Nat → xS → Prop} (hl : l.stackTraces = false) (S : xS) (c mail n0 : Nat) (z : Int) (hlt : c < n0) (hlm : mail < n0) (hn : S.1.1 = n0 + 52) (hN : n0 + 200 < xSCR) (hc : S.1.2.1 c = .inl 1) (ht1 : S.1.2.1 (n0 + 1) = .inr (4, 5)) (hr1 : S.1.2.2 c 2 = some (n0 + 1)) (ht2 : S.1.2.1 (n0 + 2) = .inr (5, 41)) (hr2 : S.1.2.2 c 3 = some (n0 + 2)) (ht3 : S.1.2.1 (n0 + 3) = .inr (6, 21)) (hr3 : S.1.2.2 c 4 = some (n0 + 3)) (ht4 : S.1.2.1 (n0 + 4) = .inr (7, 11)) (hr4 : S.1.2.2 c 5 = some (n0 + 4)) (ht5 : S.1.2.1 (n0 + 5) = .inr (8, 21)) (hr5 : S.1.2.2 c 6 = some (n0 + 5)) (ht6 : S.1.2.1 (n0 + 6) = .inr (9, 11)) (hr6 : S.1.2.2 c 7 = some (n0 + 6)) (ht7 : S.1.2.1 (n0 + 7) = .inr (1, 9)) (hr7 : S.1.2.2 c 8 = some (n0 + 7)) :
    Ev l G uX1_init 2 (fun v σ' => v = none ∧ σ' = k1b1 n0 S) Qx 143 1589 109 [some (.ref c), some (.ref mail), some (iv z)] [] S := by
  refine kx_iconst dX1_init_109 (Eq.refl 110) ?_
  refine kx_istore (ls2 := [some (.ref c), some (.ref mail), some (iv ((0 : Nat) : Int))]) dX1_init_110 (Eq.refl 111) (by decide) rfl ?_
  have f : kfr (· = n0 + 1) (n0 + 8) S (kLoop (kObj (fun _ _ τ => τ) 9 (n0 + 1)) 5 0 S) := kfr_loop (fun k τ h => kfr_obj h (fun τ h c hc => kfr.rf h)) 5 0 S (by omega)
  have hn2 : (kLoop (kObj (fun _ _ τ => τ) 9 (n0 + 1)) 5 0 S).1.1 = n0 + 57 := (kn_loop (s := 1) (f := (kObj (fun _ _ τ => τ) 9 (n0 + 1))) (fun k τ => rfl) 5 0 S).trans (by omega)
  refine xv_room (kc' := 138 + 5 * 1) (ks' := 1569 + 5 * 4) (by decide) (by decide) ?_
  refine gk_111 hl c mail (n0 + 1) (n0 + 8) 138 1569 (by omega) (by omega) (by omega) (by omega) 5 0 S rfl (by omega) hc ht1 hr1 (by omega) (fun z => ?_)
  exact gk_b2 hl (kLoop (kObj (fun _ _ τ => τ) 9 (n0 + 1)) 5 0 S) c mail n0 z hlt hlm hn2 hN ((f.2.2.1 c (by omega)).trans hc) ((f.2.2.1 (n0 + 2) (by omega)).trans ht2) ((congrFun (f.2.2.2 c (by omega) (by omega)) 3).trans hr2) ((f.2.2.1 (n0 + 3) (by omega)).trans ht3) ((congrFun (f.2.2.2 c (by omega) (by omega)) 4).trans hr3) ((f.2.2.1 (n0 + 4) (by omega)).trans ht4) ((congrFun (f.2.2.2 c (by omega) (by omega)) 5).trans hr4) ((f.2.2.1 (n0 + 5) (by omega)).trans ht5) ((congrFun (f.2.2.2 c (by omega) (by omega)) 6).trans hr5) ((f.2.2.1 (n0 + 6) (by omega)).trans ht6) ((congrFun (f.2.2.2 c (by omega) (by omega)) 7).trans hr6) ((f.2.2.1 (n0 + 7) (by omega)).trans ht7) ((congrFun (f.2.2.2 c (by omega) (by omega)) 8).trans hr7)
theorem gk_b0 {l : Launch} {G : xG} {Qx : Nat → xS → Prop} (hl : l.stackTraces = false) (S : xS) (c mail n0 : Nat) (hlt : c < n0) (hlm : mail < n0) (hn : S.1.1 = n0 + 8) (hN : n0 + 200 < xSCR) (hc : S.1.2.1 c = .inl 1) (ht0 : S.1.2.1 (n0 + 0) = .inr (3, 11)) (hr0 : S.1.2.2 c 1 = some (n0 + 0)) (ht1 : S.1.2.1 (n0 + 1) = .inr (4, 5)) (hr1 : S.1.2.2 c 2 = some (n0 + 1)) (ht2 : S.1.2.1 (n0 + 2) = .inr (5, 41)) (hr2 : S.1.2.2 c 3 = some (n0 + 2)) (ht3 : S.1.2.1 (n0 + 3) = .inr (6, 21)) (hr3 : S.1.2.2 c 4 = some (n0 + 3)) (ht4 : S.1.2.1 (n0 + 4) = .inr (7, 11)) (hr4 : S.1.2.2 c 5 = some (n0 + 4)) (ht5 : S.1.2.1 (n0 + 5) = .inr (8, 21)) (hr5 : S.1.2.2 c 6 = some (n0 + 5)) (ht6 : S.1.2.1 (n0 + 6) = .inr (9, 11)) (hr6 : S.1.2.2 c 7 = some (n0 + 6)) (ht7 : S.1.2.1 (n0 + 7) = .inr (1, 9)) (hr7 : S.1.2.2 c 8 = some (n0 + 7)) :
    Ev l G uX1_init 2 (fun v σ' => v = none ∧ σ' = k1b0 n0 S) Qx 187 2293 79 [some (.ref c), some (.ref mail), none] [] S := by
  refine kx_iconst dX1_init_79 (Eq.refl 80) ?_
  refine kx_istore (ls2 := [some (.ref c), some (.ref mail), some (iv ((0 : Nat) : Int))]) dX1_init_80 (Eq.refl 81) (by decide) rfl ?_
  have f : kfr (· = n0 + 0) (n0 + 8) S (kLoop (kObj (fun _ => k0) 0 (n0 + 0)) 11 0 S) := kfr_loop (fun k τ h => kfr_obj h (fun τ h c hc => kfr_k0 h hc)) 11 0 S (by omega)
  have hn2 : (kLoop (kObj (fun _ => k0) 0 (n0 + 0)) 11 0 S).1.1 = n0 + 52 := (kn_loop (s := 4) (f := (kObj (fun _ => k0) 0 (n0 + 0))) (fun k τ => rfl) 11 0 S).trans (by omega)
  refine xv_room (kc' := 143 + 11 * 4) (ks' := 1589 + 11 * 64) (by decide) (by decide) ?_
  refine gk_81 hl c mail (n0 + 0) (n0 + 8) 143 1589 (by omega) (by omega) (by omega) (by omega) 11 0 S rfl (by omega) hc ht0 hr0 (by omega) (fun z => ?_)
  exact gk_b1 hl (kLoop (kObj (fun _ => k0) 0 (n0 + 0)) 11 0 S) c mail n0 z hlt hlm hn2 hN ((f.2.2.1 c (by omega)).trans hc) ((f.2.2.1 (n0 + 1) (by omega)).trans ht1) ((congrFun (f.2.2.2 c (by omega) (by omega)) 2).trans hr1) ((f.2.2.1 (n0 + 2) (by omega)).trans ht2) ((congrFun (f.2.2.2 c (by omega) (by omega)) 3).trans hr2) ((f.2.2.1 (n0 + 3) (by omega)).trans ht3) ((congrFun (f.2.2.2 c (by omega) (by omega)) 4).trans hr3) ((f.2.2.1 (n0 + 4) (by omega)).trans ht4) ((congrFun (f.2.2.2 c (by omega) (by omega)) 5).trans hr4) ((f.2.2.1 (n0 + 5) (by omega)).trans ht5) ((congrFun (f.2.2.2 c (by omega) (by omega)) 6).trans hr5) ((f.2.2.1 (n0 + 6) (by omega)).trans ht6) ((congrFun (f.2.2.2 c (by omega) (by omega)) 7).trans hr6) ((f.2.2.1 (n0 + 7) (by omega)).trans ht7) ((congrFun (f.2.2.2 c (by omega) (by omega)) 8).trans hr7)
theorem mX1_init {l : Launch} {G : xG} (hl : l.stackTraces = false) (σ : xS) (c mail : Nat) (hlt : c < σ.1.1) (hc : σ.1.2.1 c = .inl 1) (hlm : mail < σ.1.1) (hN : σ.1.1 + 200 < xSCR) : Kt l G yX1_init cX1_init 3 2 195 2423 [.ref c, .ref mail] σ (k1 c mail σ.1.1 σ) := by
  refine kt_of (u := uX1_init) (ls := [some (.ref c), some (.ref mail), none]) 1 hl rfl (by decide +kernel) (Nat.le_of_ble_eq_true rfl) rfl ?_
  refine kx_aload dX1_init_0 (Eq.refl 1) rfl ?_
  refine kx_obj xq_36 xq_9 xq_10 dX1_init_1 (Eq.refl 4) (by decide) ?_
  refine kx_aload dX1_init_4 (Eq.refl 5) rfl ?_
  refine kx_bipush dX1_init_5 (Eq.refl 7) (by decide +kernel) ?_
  refine kx_anew (n := 11) (a := 3) (kc := 194) (ks := 2412) (fun U h => h.2.2.2.2.1.1) (by decide) (by decide) rfl xq_37 dX1_init_7 (Eq.refl 10) (by decide) (by show σ.1.1 + 0 + 1 < xSCR; omega) (by decide) (by decide) (xok_c (Or.inl (show c < σ.1.1 + 0 by omega)) xok_nil) (xol_s (Or.inl (show c < σ.1.1 + 0 by omega)) (xol_s (Or.inl (show mail < σ.1.1 + 0 by omega)) (xol_n xol_nil))) ?_
  refine kx_ref (k := 1) (ty := .array (.object "SettlementRing$Account")) xcl1 (((kfr.new (kfr.rf (A := (· = c)) (Nat.le_refl _))).2.2.1 c hlt).trans hc) rfl xq_38 rfl (by decide +kernel) (Or.inr ⟨_, rfl⟩) dX1_init_10 (Eq.refl 13) rfl rfl rfl (Nat.lt_succ_self _) ?_
  refine kx_aload dX1_init_13 (Eq.refl 14) rfl ?_
  refine kx_iconst dX1_init_14 (Eq.refl 15) ?_
  refine kx_anew (n := 5) (a := 4) (kc := 193) (ks := 2407) (fun U h => h.2.2.2.2.1.2.1) (by decide) (by decide) rfl xq_39 dX1_init_15 (Eq.refl 18) (by decide) (by show σ.1.1 + 1 + 1 < xSCR; omega) (by decide) (by decide) (xok_c (Or.inl (show c < σ.1.1 + 1 by omega)) xok_nil) (xol_s (Or.inl (show c < σ.1.1 + 1 by omega)) (xol_s (Or.inl (show mail < σ.1.1 + 1 by omega)) (xol_n xol_nil))) ?_
  refine kx_ref (k := 2) (ty := .array (.object "SettlementRing$Security")) xcl1 (((kfr.new (kfr.ref (kfr.new (kfr.rf (A := (· = c)) (Nat.le_refl _))) (Or.inr rfl))).2.2.1 c hlt).trans hc) rfl xq_40 rfl (by decide +kernel) (Or.inr ⟨_, rfl⟩) dX1_init_18 (Eq.refl 21) rfl rfl rfl (Nat.lt_succ_self _) ?_
  refine kx_aload dX1_init_21 (Eq.refl 22) rfl ?_
  refine kx_bipush dX1_init_22 (Eq.refl 24) (by decide +kernel) ?_
  refine kx_anew (n := 41) (a := 5) (kc := 192) (ks := 2366) (fun U h => h.2.2.2.2.1.2.2.1) (by decide) (by decide) rfl xq_41 dX1_init_24 (Eq.refl 27) (by decide) (by show σ.1.1 + 2 + 1 < xSCR; omega) (by decide) (by decide) (xok_c (Or.inl (show c < σ.1.1 + 2 by omega)) xok_nil) (xol_s (Or.inl (show c < σ.1.1 + 2 by omega)) (xol_s (Or.inl (show mail < σ.1.1 + 2 by omega)) (xol_n xol_nil))) ?_
  refine kx_ref (k := 3) (ty := .array (.object "SettlementRing$Instruction")) xcl1 (((kfr.new (kfr.ref (kfr.new (kfr.ref (kfr.new (kfr.rf (A := (· = c)) (Nat.le_refl _))) (Or.inr rfl))) (Or.inr rfl))).2.2.1 c hlt).trans hc) rfl xq_42 rfl (by decide +kernel) (Or.inr ⟨_, rfl⟩) dX1_init_27 (Eq.refl 30) rfl rfl rfl (Nat.lt_succ_self _) ?_
  refine kx_aload dX1_init_30 (Eq.refl 31) rfl ?_
  refine kx_bipush dX1_init_31 (Eq.refl 33) (by decide +kernel) ?_
  refine kx_anew (n := 21) (a := 6) (kc := 191) (ks := 2345) (fun U h => h.2.2.2.2.1.2.2.2.1) (by decide) (by decide) rfl xq_43 dX1_init_33 (Eq.refl 36) (by decide) (by show σ.1.1 + 3 + 1 < xSCR; omega) (by decide) (by decide) (xok_c (Or.inl (show c < σ.1.1 + 3 by omega)) xok_nil) (xol_s (Or.inl (show c < σ.1.1 + 3 by omega)) (xol_s (Or.inl (show mail < σ.1.1 + 3 by omega)) (xol_n xol_nil))) ?_
  refine kx_ref (k := 4) (ty := .array (.object "SettlementRing$Trade")) xcl1 (((kfr.new (kfr.ref (kfr.new (kfr.ref (kfr.new (kfr.ref (kfr.new (kfr.rf (A := (· = c)) (Nat.le_refl _))) (Or.inr rfl))) (Or.inr rfl))) (Or.inr rfl))).2.2.1 c hlt).trans hc) rfl xq_44 rfl (by decide +kernel) (Or.inr ⟨_, rfl⟩) dX1_init_36 (Eq.refl 39) rfl rfl rfl (Nat.lt_succ_self _) ?_
  refine kx_aload dX1_init_39 (Eq.refl 40) rfl ?_
  refine kx_bipush dX1_init_40 (Eq.refl 42) (by decide +kernel) ?_
  refine kx_anew (n := 11) (a := 7) (kc := 190) (ks := 2334) (fun U h => h.2.2.2.2.1.2.2.2.2.1) (by decide) (by decide) rfl xq_45 dX1_init_42 (Eq.refl 45) (by decide) (by show σ.1.1 + 4 + 1 < xSCR; omega) (by decide) (by decide) (xok_c (Or.inl (show c < σ.1.1 + 4 by omega)) xok_nil) (xol_s (Or.inl (show c < σ.1.1 + 4 by omega)) (xol_s (Or.inl (show mail < σ.1.1 + 4 by omega)) (xol_n xol_nil))) ?_
  refine kx_ref (k := 5) (ty := .array (.object "SettlementRing$Link")) xcl1 (((kfr.new (kfr.ref (kfr.new (kfr.ref (kfr.new (kfr.ref (kfr.new (kfr.ref (kfr.new (kfr.rf (A := (· = c)) (Nat.le_refl _))) (Or.inr rfl))) (Or.inr rfl))) (Or.inr rfl))) (Or.inr rfl))).2.2.1 c hlt).trans hc) rfl xq_46 rfl (by decide +kernel) (Or.inr ⟨_, rfl⟩) dX1_init_45 (Eq.refl 48) rfl rfl rfl (Nat.lt_succ_self _) ?_
  refine kx_aload dX1_init_48 (Eq.refl 49) rfl ?_
  refine kx_bipush dX1_init_49 (Eq.refl 51) (by decide +kernel) ?_
  refine kx_anew (n := 21) (a := 8) (kc := 189) (ks := 2313) (fun U h => h.2.2.2.2.1.2.2.2.2.2.1) (by decide) (by decide) rfl xq_47 dX1_init_51 (Eq.refl 54) (by decide) (by show σ.1.1 + 5 + 1 < xSCR; omega) (by decide) (by decide) (xok_c (Or.inl (show c < σ.1.1 + 5 by omega)) xok_nil) (xol_s (Or.inl (show c < σ.1.1 + 5 by omega)) (xol_s (Or.inl (show mail < σ.1.1 + 5 by omega)) (xol_n xol_nil))) ?_
  refine kx_ref (k := 6) (ty := .array (.object "SettlementRing$Loan")) xcl1 (((kfr.new (kfr.ref (kfr.new (kfr.ref (kfr.new (kfr.ref (kfr.new (kfr.ref (kfr.new (kfr.ref (kfr.new (kfr.rf (A := (· = c)) (Nat.le_refl _))) (Or.inr rfl))) (Or.inr rfl))) (Or.inr rfl))) (Or.inr rfl))) (Or.inr rfl))).2.2.1 c hlt).trans hc) rfl xq_48 rfl (by decide +kernel) (Or.inr ⟨_, rfl⟩) dX1_init_54 (Eq.refl 57) rfl rfl rfl (Nat.lt_succ_self _) ?_
  refine kx_aload dX1_init_57 (Eq.refl 58) rfl ?_
  refine kx_bipush dX1_init_58 (Eq.refl 60) (by decide +kernel) ?_
  refine kx_anew (n := 11) (a := 9) (kc := 188) (ks := 2302) (fun U h => h.2.2.2.2.1.2.2.2.2.2.2) (by decide) (by decide) rfl xq_49 dX1_init_60 (Eq.refl 63) (by decide) (by show σ.1.1 + 6 + 1 < xSCR; omega) (by decide) (by decide) (xok_c (Or.inl (show c < σ.1.1 + 6 by omega)) xok_nil) (xol_s (Or.inl (show c < σ.1.1 + 6 by omega)) (xol_s (Or.inl (show mail < σ.1.1 + 6 by omega)) (xol_n xol_nil))) ?_
  refine kx_ref (k := 7) (ty := .array (.object "SettlementRing$Event")) xcl1 (((kfr.new (kfr.ref (kfr.new (kfr.ref (kfr.new (kfr.ref (kfr.new (kfr.ref (kfr.new (kfr.ref (kfr.new (kfr.ref (kfr.new (kfr.rf (A := (· = c)) (Nat.le_refl _))) (Or.inr rfl))) (Or.inr rfl))) (Or.inr rfl))) (Or.inr rfl))) (Or.inr rfl))) (Or.inr rfl))).2.2.1 c hlt).trans hc) rfl xq_50 rfl (by decide +kernel) (Or.inr ⟨_, rfl⟩) dX1_init_63 (Eq.refl 66) rfl rfl rfl (Nat.lt_succ_self _) ?_
  refine kx_aload dX1_init_66 (Eq.refl 67) rfl ?_
  refine kx_bipush dX1_init_67 (Eq.refl 69) (by decide +kernel) ?_
  refine kx_newa_l (n := 9) (kc := 187) (ks := 2293) xq_51 dX1_init_69 (Eq.refl 71) (by decide) (by show σ.1.1 + 7 + 1 < xSCR; omega) (by decide) (by decide) (xok_c (Or.inl (show c < σ.1.1 + 7 by omega)) xok_nil) (xol_s (Or.inl (show c < σ.1.1 + 7 by omega)) (xol_s (Or.inl (show mail < σ.1.1 + 7 by omega)) (xol_n xol_nil))) ?_
  refine kx_ref (k := 8) (ty := .array .long) xcl1 (((kfr.new (kfr.ref (kfr.new (kfr.ref (kfr.new (kfr.ref (kfr.new (kfr.ref (kfr.new (kfr.ref (kfr.new (kfr.ref (kfr.new (kfr.ref (kfr.new (kfr.rf (A := (· = c)) (Nat.le_refl _))) (Or.inr rfl))) (Or.inr rfl))) (Or.inr rfl))) (Or.inr rfl))) (Or.inr rfl))) (Or.inr rfl))) (Or.inr rfl))).2.2.1 c hlt).trans hc) rfl xq_52 rfl (by decide +kernel) (Or.inr ⟨_, rfl⟩) dX1_init_71 (Eq.refl 74) rfl rfl rfl (Nat.lt_succ_self _) ?_
  refine kx_aload dX1_init_74 (Eq.refl 75) rfl ?_
  refine kx_aload dX1_init_75 (Eq.refl 76) rfl ?_
  refine kx_ref (k := 0) (ty := .object "SettlementRing$Mail") xcl1 (((kfr.ref (kfr.new (kfr.ref (kfr.new (kfr.ref (kfr.new (kfr.ref (kfr.new (kfr.ref (kfr.new (kfr.ref (kfr.new (kfr.ref (kfr.new (kfr.ref (kfr.new (kfr.rf (A := (· = c)) (Nat.le_refl _))) (Or.inr rfl))) (Or.inr rfl))) (Or.inr rfl))) (Or.inr rfl))) (Or.inr rfl))) (Or.inr rfl))) (Or.inr rfl))) (Or.inr rfl)).2.2.1 c hlt).trans hc) rfl xq_53 rfl (by decide +kernel) (Or.inl ⟨_, rfl⟩) dX1_init_76 (Eq.refl 79) rfl rfl rfl (show mail < σ.1.1 + 8 by omega) ?_
  show Ev l G uX1_init 2 _ _ 187 2293 79 [some (.ref c), some (.ref mail), none] [] (k1a c mail σ)
  have hn : (k1a c mail σ).1.1 = σ.1.1 + 8 := rfl
  have ht0 : (k1a c mail σ).1.2.1 (σ.1.1 + 0) = .inr (3, 11) := (show (kArr (.inr (1, 9)) c 8 (kArr (.inr (9, 11)) c 7 (kArr (.inr (8, 21)) c 6 (kArr (.inr (7, 11)) c 5 (kArr (.inr (6, 21)) c 4 (kArr (.inr (5, 41)) c 3 (kArr (.inr (4, 5)) c 2 (kArr (.inr (3, 11)) c 1 σ)))))))).1.2.1 (σ.1.1 + 0) = .inr (3, 11) from ((kArr_to (σ := (kArr (.inr (9, 11)) c 7 (kArr (.inr (8, 21)) c 6 (kArr (.inr (7, 11)) c 5 (kArr (.inr (6, 21)) c 4 (kArr (.inr (5, 41)) c 3 (kArr (.inr (4, 5)) c 2 (kArr (.inr (3, 11)) c 1 σ)))))))) (show σ.1.1 + 0 < σ.1.1 + 7 by omega)).trans ((kArr_to (σ := (kArr (.inr (8, 21)) c 6 (kArr (.inr (7, 11)) c 5 (kArr (.inr (6, 21)) c 4 (kArr (.inr (5, 41)) c 3 (kArr (.inr (4, 5)) c 2 (kArr (.inr (3, 11)) c 1 σ))))))) (show σ.1.1 + 0 < σ.1.1 + 6 by omega)).trans ((kArr_to (σ := (kArr (.inr (7, 11)) c 5 (kArr (.inr (6, 21)) c 4 (kArr (.inr (5, 41)) c 3 (kArr (.inr (4, 5)) c 2 (kArr (.inr (3, 11)) c 1 σ)))))) (show σ.1.1 + 0 < σ.1.1 + 5 by omega)).trans ((kArr_to (σ := (kArr (.inr (6, 21)) c 4 (kArr (.inr (5, 41)) c 3 (kArr (.inr (4, 5)) c 2 (kArr (.inr (3, 11)) c 1 σ))))) (show σ.1.1 + 0 < σ.1.1 + 4 by omega)).trans ((kArr_to (σ := (kArr (.inr (5, 41)) c 3 (kArr (.inr (4, 5)) c 2 (kArr (.inr (3, 11)) c 1 σ)))) (show σ.1.1 + 0 < σ.1.1 + 3 by omega)).trans ((kArr_to (σ := (kArr (.inr (4, 5)) c 2 (kArr (.inr (3, 11)) c 1 σ))) (show σ.1.1 + 0 < σ.1.1 + 2 by omega)).trans ((kArr_to (σ := (kArr (.inr (3, 11)) c 1 σ)) (show σ.1.1 + 0 < σ.1.1 + 1 by omega)).trans (kArr_tn (σ := σ))))))))))
  have hr0 : (k1a c mail σ).1.2.2 c 1 = some (σ.1.1 + 0) := (xup_ne (fun z => absurd z.2 (by decide))).trans (show (kArr (.inr (1, 9)) c 8 (kArr (.inr (9, 11)) c 7 (kArr (.inr (8, 21)) c 6 (kArr (.inr (7, 11)) c 5 (kArr (.inr (6, 21)) c 4 (kArr (.inr (5, 41)) c 3 (kArr (.inr (4, 5)) c 2 (kArr (.inr (3, 11)) c 1 σ)))))))).1.2.2 c 1 = some (σ.1.1 + 0) from ((kArr_ro (σ := (kArr (.inr (9, 11)) c 7 (kArr (.inr (8, 21)) c 6 (kArr (.inr (7, 11)) c 5 (kArr (.inr (6, 21)) c 4 (kArr (.inr (5, 41)) c 3 (kArr (.inr (4, 5)) c 2 (kArr (.inr (3, 11)) c 1 σ)))))))) (by decide) (show c < σ.1.1 + 7 by omega)).trans ((kArr_ro (σ := (kArr (.inr (8, 21)) c 6 (kArr (.inr (7, 11)) c 5 (kArr (.inr (6, 21)) c 4 (kArr (.inr (5, 41)) c 3 (kArr (.inr (4, 5)) c 2 (kArr (.inr (3, 11)) c 1 σ))))))) (by decide) (show c < σ.1.1 + 6 by omega)).trans ((kArr_ro (σ := (kArr (.inr (7, 11)) c 5 (kArr (.inr (6, 21)) c 4 (kArr (.inr (5, 41)) c 3 (kArr (.inr (4, 5)) c 2 (kArr (.inr (3, 11)) c 1 σ)))))) (by decide) (show c < σ.1.1 + 5 by omega)).trans ((kArr_ro (σ := (kArr (.inr (6, 21)) c 4 (kArr (.inr (5, 41)) c 3 (kArr (.inr (4, 5)) c 2 (kArr (.inr (3, 11)) c 1 σ))))) (by decide) (show c < σ.1.1 + 4 by omega)).trans ((kArr_ro (σ := (kArr (.inr (5, 41)) c 3 (kArr (.inr (4, 5)) c 2 (kArr (.inr (3, 11)) c 1 σ)))) (by decide) (show c < σ.1.1 + 3 by omega)).trans ((kArr_ro (σ := (kArr (.inr (4, 5)) c 2 (kArr (.inr (3, 11)) c 1 σ))) (by decide) (show c < σ.1.1 + 2 by omega)).trans ((kArr_ro (σ := (kArr (.inr (3, 11)) c 1 σ)) (by decide) (show c < σ.1.1 + 1 by omega)).trans (kArr_rn (σ := σ))))))))))
  have ht1 : (k1a c mail σ).1.2.1 (σ.1.1 + 1) = .inr (4, 5) := (show (kArr (.inr (1, 9)) c 8 (kArr (.inr (9, 11)) c 7 (kArr (.inr (8, 21)) c 6 (kArr (.inr (7, 11)) c 5 (kArr (.inr (6, 21)) c 4 (kArr (.inr (5, 41)) c 3 (kArr (.inr (4, 5)) c 2 (kArr (.inr (3, 11)) c 1 σ)))))))).1.2.1 (σ.1.1 + 1) = .inr (4, 5) from ((kArr_to (σ := (kArr (.inr (9, 11)) c 7 (kArr (.inr (8, 21)) c 6 (kArr (.inr (7, 11)) c 5 (kArr (.inr (6, 21)) c 4 (kArr (.inr (5, 41)) c 3 (kArr (.inr (4, 5)) c 2 (kArr (.inr (3, 11)) c 1 σ)))))))) (show σ.1.1 + 1 < σ.1.1 + 7 by omega)).trans ((kArr_to (σ := (kArr (.inr (8, 21)) c 6 (kArr (.inr (7, 11)) c 5 (kArr (.inr (6, 21)) c 4 (kArr (.inr (5, 41)) c 3 (kArr (.inr (4, 5)) c 2 (kArr (.inr (3, 11)) c 1 σ))))))) (show σ.1.1 + 1 < σ.1.1 + 6 by omega)).trans ((kArr_to (σ := (kArr (.inr (7, 11)) c 5 (kArr (.inr (6, 21)) c 4 (kArr (.inr (5, 41)) c 3 (kArr (.inr (4, 5)) c 2 (kArr (.inr (3, 11)) c 1 σ)))))) (show σ.1.1 + 1 < σ.1.1 + 5 by omega)).trans ((kArr_to (σ := (kArr (.inr (6, 21)) c 4 (kArr (.inr (5, 41)) c 3 (kArr (.inr (4, 5)) c 2 (kArr (.inr (3, 11)) c 1 σ))))) (show σ.1.1 + 1 < σ.1.1 + 4 by omega)).trans ((kArr_to (σ := (kArr (.inr (5, 41)) c 3 (kArr (.inr (4, 5)) c 2 (kArr (.inr (3, 11)) c 1 σ)))) (show σ.1.1 + 1 < σ.1.1 + 3 by omega)).trans ((kArr_to (σ := (kArr (.inr (4, 5)) c 2 (kArr (.inr (3, 11)) c 1 σ))) (show σ.1.1 + 1 < σ.1.1 + 2 by omega)).trans (kArr_tn (σ := (kArr (.inr (3, 11)) c 1 σ))))))))))
  have hr1 : (k1a c mail σ).1.2.2 c 2 = some (σ.1.1 + 1) := (xup_ne (fun z => absurd z.2 (by decide))).trans (show (kArr (.inr (1, 9)) c 8 (kArr (.inr (9, 11)) c 7 (kArr (.inr (8, 21)) c 6 (kArr (.inr (7, 11)) c 5 (kArr (.inr (6, 21)) c 4 (kArr (.inr (5, 41)) c 3 (kArr (.inr (4, 5)) c 2 (kArr (.inr (3, 11)) c 1 σ)))))))).1.2.2 c 2 = some (σ.1.1 + 1) from ((kArr_ro (σ := (kArr (.inr (9, 11)) c 7 (kArr (.inr (8, 21)) c 6 (kArr (.inr (7, 11)) c 5 (kArr (.inr (6, 21)) c 4 (kArr (.inr (5, 41)) c 3 (kArr (.inr (4, 5)) c 2 (kArr (.inr (3, 11)) c 1 σ)))))))) (by decide) (show c < σ.1.1 + 7 by omega)).trans ((kArr_ro (σ := (kArr (.inr (8, 21)) c 6 (kArr (.inr (7, 11)) c 5 (kArr (.inr (6, 21)) c 4 (kArr (.inr (5, 41)) c 3 (kArr (.inr (4, 5)) c 2 (kArr (.inr (3, 11)) c 1 σ))))))) (by decide) (show c < σ.1.1 + 6 by omega)).trans ((kArr_ro (σ := (kArr (.inr (7, 11)) c 5 (kArr (.inr (6, 21)) c 4 (kArr (.inr (5, 41)) c 3 (kArr (.inr (4, 5)) c 2 (kArr (.inr (3, 11)) c 1 σ)))))) (by decide) (show c < σ.1.1 + 5 by omega)).trans ((kArr_ro (σ := (kArr (.inr (6, 21)) c 4 (kArr (.inr (5, 41)) c 3 (kArr (.inr (4, 5)) c 2 (kArr (.inr (3, 11)) c 1 σ))))) (by decide) (show c < σ.1.1 + 4 by omega)).trans ((kArr_ro (σ := (kArr (.inr (5, 41)) c 3 (kArr (.inr (4, 5)) c 2 (kArr (.inr (3, 11)) c 1 σ)))) (by decide) (show c < σ.1.1 + 3 by omega)).trans ((kArr_ro (σ := (kArr (.inr (4, 5)) c 2 (kArr (.inr (3, 11)) c 1 σ))) (by decide) (show c < σ.1.1 + 2 by omega)).trans (kArr_rn (σ := (kArr (.inr (3, 11)) c 1 σ))))))))))
  have ht2 : (k1a c mail σ).1.2.1 (σ.1.1 + 2) = .inr (5, 41) := (show (kArr (.inr (1, 9)) c 8 (kArr (.inr (9, 11)) c 7 (kArr (.inr (8, 21)) c 6 (kArr (.inr (7, 11)) c 5 (kArr (.inr (6, 21)) c 4 (kArr (.inr (5, 41)) c 3 (kArr (.inr (4, 5)) c 2 (kArr (.inr (3, 11)) c 1 σ)))))))).1.2.1 (σ.1.1 + 2) = .inr (5, 41) from ((kArr_to (σ := (kArr (.inr (9, 11)) c 7 (kArr (.inr (8, 21)) c 6 (kArr (.inr (7, 11)) c 5 (kArr (.inr (6, 21)) c 4 (kArr (.inr (5, 41)) c 3 (kArr (.inr (4, 5)) c 2 (kArr (.inr (3, 11)) c 1 σ)))))))) (show σ.1.1 + 2 < σ.1.1 + 7 by omega)).trans ((kArr_to (σ := (kArr (.inr (8, 21)) c 6 (kArr (.inr (7, 11)) c 5 (kArr (.inr (6, 21)) c 4 (kArr (.inr (5, 41)) c 3 (kArr (.inr (4, 5)) c 2 (kArr (.inr (3, 11)) c 1 σ))))))) (show σ.1.1 + 2 < σ.1.1 + 6 by omega)).trans ((kArr_to (σ := (kArr (.inr (7, 11)) c 5 (kArr (.inr (6, 21)) c 4 (kArr (.inr (5, 41)) c 3 (kArr (.inr (4, 5)) c 2 (kArr (.inr (3, 11)) c 1 σ)))))) (show σ.1.1 + 2 < σ.1.1 + 5 by omega)).trans ((kArr_to (σ := (kArr (.inr (6, 21)) c 4 (kArr (.inr (5, 41)) c 3 (kArr (.inr (4, 5)) c 2 (kArr (.inr (3, 11)) c 1 σ))))) (show σ.1.1 + 2 < σ.1.1 + 4 by omega)).trans ((kArr_to (σ := (kArr (.inr (5, 41)) c 3 (kArr (.inr (4, 5)) c 2 (kArr (.inr (3, 11)) c 1 σ)))) (show σ.1.1 + 2 < σ.1.1 + 3 by omega)).trans (kArr_tn (σ := (kArr (.inr (4, 5)) c 2 (kArr (.inr (3, 11)) c 1 σ))))))))))
  have hr2 : (k1a c mail σ).1.2.2 c 3 = some (σ.1.1 + 2) := (xup_ne (fun z => absurd z.2 (by decide))).trans (show (kArr (.inr (1, 9)) c 8 (kArr (.inr (9, 11)) c 7 (kArr (.inr (8, 21)) c 6 (kArr (.inr (7, 11)) c 5 (kArr (.inr (6, 21)) c 4 (kArr (.inr (5, 41)) c 3 (kArr (.inr (4, 5)) c 2 (kArr (.inr (3, 11)) c 1 σ)))))))).1.2.2 c 3 = some (σ.1.1 + 2) from ((kArr_ro (σ := (kArr (.inr (9, 11)) c 7 (kArr (.inr (8, 21)) c 6 (kArr (.inr (7, 11)) c 5 (kArr (.inr (6, 21)) c 4 (kArr (.inr (5, 41)) c 3 (kArr (.inr (4, 5)) c 2 (kArr (.inr (3, 11)) c 1 σ)))))))) (by decide) (show c < σ.1.1 + 7 by omega)).trans ((kArr_ro (σ := (kArr (.inr (8, 21)) c 6 (kArr (.inr (7, 11)) c 5 (kArr (.inr (6, 21)) c 4 (kArr (.inr (5, 41)) c 3 (kArr (.inr (4, 5)) c 2 (kArr (.inr (3, 11)) c 1 σ))))))) (by decide) (show c < σ.1.1 + 6 by omega)).trans ((kArr_ro (σ := (kArr (.inr (7, 11)) c 5 (kArr (.inr (6, 21)) c 4 (kArr (.inr (5, 41)) c 3 (kArr (.inr (4, 5)) c 2 (kArr (.inr (3, 11)) c 1 σ)))))) (by decide) (show c < σ.1.1 + 5 by omega)).trans ((kArr_ro (σ := (kArr (.inr (6, 21)) c 4 (kArr (.inr (5, 41)) c 3 (kArr (.inr (4, 5)) c 2 (kArr (.inr (3, 11)) c 1 σ))))) (by decide) (show c < σ.1.1 + 4 by omega)).trans ((kArr_ro (σ := (kArr (.inr (5, 41)) c 3 (kArr (.inr (4, 5)) c 2 (kArr (.inr (3, 11)) c 1 σ)))) (by decide) (show c < σ.1.1 + 3 by omega)).trans (kArr_rn (σ := (kArr (.inr (4, 5)) c 2 (kArr (.inr (3, 11)) c 1 σ))))))))))
  have ht3 : (k1a c mail σ).1.2.1 (σ.1.1 + 3) = .inr (6, 21) := (show (kArr (.inr (1, 9)) c 8 (kArr (.inr (9, 11)) c 7 (kArr (.inr (8, 21)) c 6 (kArr (.inr (7, 11)) c 5 (kArr (.inr (6, 21)) c 4 (kArr (.inr (5, 41)) c 3 (kArr (.inr (4, 5)) c 2 (kArr (.inr (3, 11)) c 1 σ)))))))).1.2.1 (σ.1.1 + 3) = .inr (6, 21) from ((kArr_to (σ := (kArr (.inr (9, 11)) c 7 (kArr (.inr (8, 21)) c 6 (kArr (.inr (7, 11)) c 5 (kArr (.inr (6, 21)) c 4 (kArr (.inr (5, 41)) c 3 (kArr (.inr (4, 5)) c 2 (kArr (.inr (3, 11)) c 1 σ)))))))) (show σ.1.1 + 3 < σ.1.1 + 7 by omega)).trans ((kArr_to (σ := (kArr (.inr (8, 21)) c 6 (kArr (.inr (7, 11)) c 5 (kArr (.inr (6, 21)) c 4 (kArr (.inr (5, 41)) c 3 (kArr (.inr (4, 5)) c 2 (kArr (.inr (3, 11)) c 1 σ))))))) (show σ.1.1 + 3 < σ.1.1 + 6 by omega)).trans ((kArr_to (σ := (kArr (.inr (7, 11)) c 5 (kArr (.inr (6, 21)) c 4 (kArr (.inr (5, 41)) c 3 (kArr (.inr (4, 5)) c 2 (kArr (.inr (3, 11)) c 1 σ)))))) (show σ.1.1 + 3 < σ.1.1 + 5 by omega)).trans ((kArr_to (σ := (kArr (.inr (6, 21)) c 4 (kArr (.inr (5, 41)) c 3 (kArr (.inr (4, 5)) c 2 (kArr (.inr (3, 11)) c 1 σ))))) (show σ.1.1 + 3 < σ.1.1 + 4 by omega)).trans (kArr_tn (σ := (kArr (.inr (5, 41)) c 3 (kArr (.inr (4, 5)) c 2 (kArr (.inr (3, 11)) c 1 σ))))))))))
  have hr3 : (k1a c mail σ).1.2.2 c 4 = some (σ.1.1 + 3) := (xup_ne (fun z => absurd z.2 (by decide))).trans (show (kArr (.inr (1, 9)) c 8 (kArr (.inr (9, 11)) c 7 (kArr (.inr (8, 21)) c 6 (kArr (.inr (7, 11)) c 5 (kArr (.inr (6, 21)) c 4 (kArr (.inr (5, 41)) c 3 (kArr (.inr (4, 5)) c 2 (kArr (.inr (3, 11)) c 1 σ)))))))).1.2.2 c 4 = some (σ.1.1 + 3) from ((kArr_ro (σ := (kArr (.inr (9, 11)) c 7 (kArr (.inr (8, 21)) c 6 (kArr (.inr (7, 11)) c 5 (kArr (.inr (6, 21)) c 4 (kArr (.inr (5, 41)) c 3 (kArr (.inr (4, 5)) c 2 (kArr (.inr (3, 11)) c 1 σ)))))))) (by decide) (show c < σ.1.1 + 7 by omega)).trans ((kArr_ro (σ := (kArr (.inr (8, 21)) c 6 (kArr (.inr (7, 11)) c 5 (kArr (.inr (6, 21)) c 4 (kArr (.inr (5, 41)) c 3 (kArr (.inr (4, 5)) c 2 (kArr (.inr (3, 11)) c 1 σ))))))) (by decide) (show c < σ.1.1 + 6 by omega)).trans ((kArr_ro (σ := (kArr (.inr (7, 11)) c 5 (kArr (.inr (6, 21)) c 4 (kArr (.inr (5, 41)) c 3 (kArr (.inr (4, 5)) c 2 (kArr (.inr (3, 11)) c 1 σ)))))) (by decide) (show c < σ.1.1 + 5 by omega)).trans ((kArr_ro (σ := (kArr (.inr (6, 21)) c 4 (kArr (.inr (5, 41)) c 3 (kArr (.inr (4, 5)) c 2 (kArr (.inr (3, 11)) c 1 σ))))) (by decide) (show c < σ.1.1 + 4 by omega)).trans (kArr_rn (σ := (kArr (.inr (5, 41)) c 3 (kArr (.inr (4, 5)) c 2 (kArr (.inr (3, 11)) c 1 σ))))))))))
  have ht4 : (k1a c mail σ).1.2.1 (σ.1.1 + 4) = .inr (7, 11) := (show (kArr (.inr (1, 9)) c 8 (kArr (.inr (9, 11)) c 7 (kArr (.inr (8, 21)) c 6 (kArr (.inr (7, 11)) c 5 (kArr (.inr (6, 21)) c 4 (kArr (.inr (5, 41)) c 3 (kArr (.inr (4, 5)) c 2 (kArr (.inr (3, 11)) c 1 σ)))))))).1.2.1 (σ.1.1 + 4) = .inr (7, 11) from ((kArr_to (σ := (kArr (.inr (9, 11)) c 7 (kArr (.inr (8, 21)) c 6 (kArr (.inr (7, 11)) c 5 (kArr (.inr (6, 21)) c 4 (kArr (.inr (5, 41)) c 3 (kArr (.inr (4, 5)) c 2 (kArr (.inr (3, 11)) c 1 σ)))))))) (show σ.1.1 + 4 < σ.1.1 + 7 by omega)).trans ((kArr_to (σ := (kArr (.inr (8, 21)) c 6 (kArr (.inr (7, 11)) c 5 (kArr (.inr (6, 21)) c 4 (kArr (.inr (5, 41)) c 3 (kArr (.inr (4, 5)) c 2 (kArr (.inr (3, 11)) c 1 σ))))))) (show σ.1.1 + 4 < σ.1.1 + 6 by omega)).trans ((kArr_to (σ := (kArr (.inr (7, 11)) c 5 (kArr (.inr (6, 21)) c 4 (kArr (.inr (5, 41)) c 3 (kArr (.inr (4, 5)) c 2 (kArr (.inr (3, 11)) c 1 σ)))))) (show σ.1.1 + 4 < σ.1.1 + 5 by omega)).trans (kArr_tn (σ := (kArr (.inr (6, 21)) c 4 (kArr (.inr (5, 41)) c 3 (kArr (.inr (4, 5)) c 2 (kArr (.inr (3, 11)) c 1 σ))))))))))
  have hr4 : (k1a c mail σ).1.2.2 c 5 = some (σ.1.1 + 4) := (xup_ne (fun z => absurd z.2 (by decide))).trans (show (kArr (.inr (1, 9)) c 8 (kArr (.inr (9, 11)) c 7 (kArr (.inr (8, 21)) c 6 (kArr (.inr (7, 11)) c 5 (kArr (.inr (6, 21)) c 4 (kArr (.inr (5, 41)) c 3 (kArr (.inr (4, 5)) c 2 (kArr (.inr (3, 11)) c 1 σ)))))))).1.2.2 c 5 = some (σ.1.1 + 4) from ((kArr_ro (σ := (kArr (.inr (9, 11)) c 7 (kArr (.inr (8, 21)) c 6 (kArr (.inr (7, 11)) c 5 (kArr (.inr (6, 21)) c 4 (kArr (.inr (5, 41)) c 3 (kArr (.inr (4, 5)) c 2 (kArr (.inr (3, 11)) c 1 σ)))))))) (by decide) (show c < σ.1.1 + 7 by omega)).trans ((kArr_ro (σ := (kArr (.inr (8, 21)) c 6 (kArr (.inr (7, 11)) c 5 (kArr (.inr (6, 21)) c 4 (kArr (.inr (5, 41)) c 3 (kArr (.inr (4, 5)) c 2 (kArr (.inr (3, 11)) c 1 σ))))))) (by decide) (show c < σ.1.1 + 6 by omega)).trans ((kArr_ro (σ := (kArr (.inr (7, 11)) c 5 (kArr (.inr (6, 21)) c 4 (kArr (.inr (5, 41)) c 3 (kArr (.inr (4, 5)) c 2 (kArr (.inr (3, 11)) c 1 σ)))))) (by decide) (show c < σ.1.1 + 5 by omega)).trans (kArr_rn (σ := (kArr (.inr (6, 21)) c 4 (kArr (.inr (5, 41)) c 3 (kArr (.inr (4, 5)) c 2 (kArr (.inr (3, 11)) c 1 σ))))))))))
  have ht5 : (k1a c mail σ).1.2.1 (σ.1.1 + 5) = .inr (8, 21) := (show (kArr (.inr (1, 9)) c 8 (kArr (.inr (9, 11)) c 7 (kArr (.inr (8, 21)) c 6 (kArr (.inr (7, 11)) c 5 (kArr (.inr (6, 21)) c 4 (kArr (.inr (5, 41)) c 3 (kArr (.inr (4, 5)) c 2 (kArr (.inr (3, 11)) c 1 σ)))))))).1.2.1 (σ.1.1 + 5) = .inr (8, 21) from ((kArr_to (σ := (kArr (.inr (9, 11)) c 7 (kArr (.inr (8, 21)) c 6 (kArr (.inr (7, 11)) c 5 (kArr (.inr (6, 21)) c 4 (kArr (.inr (5, 41)) c 3 (kArr (.inr (4, 5)) c 2 (kArr (.inr (3, 11)) c 1 σ)))))))) (show σ.1.1 + 5 < σ.1.1 + 7 by omega)).trans ((kArr_to (σ := (kArr (.inr (8, 21)) c 6 (kArr (.inr (7, 11)) c 5 (kArr (.inr (6, 21)) c 4 (kArr (.inr (5, 41)) c 3 (kArr (.inr (4, 5)) c 2 (kArr (.inr (3, 11)) c 1 σ))))))) (show σ.1.1 + 5 < σ.1.1 + 6 by omega)).trans (kArr_tn (σ := (kArr (.inr (7, 11)) c 5 (kArr (.inr (6, 21)) c 4 (kArr (.inr (5, 41)) c 3 (kArr (.inr (4, 5)) c 2 (kArr (.inr (3, 11)) c 1 σ))))))))))
  have hr5 : (k1a c mail σ).1.2.2 c 6 = some (σ.1.1 + 5) := (xup_ne (fun z => absurd z.2 (by decide))).trans (show (kArr (.inr (1, 9)) c 8 (kArr (.inr (9, 11)) c 7 (kArr (.inr (8, 21)) c 6 (kArr (.inr (7, 11)) c 5 (kArr (.inr (6, 21)) c 4 (kArr (.inr (5, 41)) c 3 (kArr (.inr (4, 5)) c 2 (kArr (.inr (3, 11)) c 1 σ)))))))).1.2.2 c 6 = some (σ.1.1 + 5) from ((kArr_ro (σ := (kArr (.inr (9, 11)) c 7 (kArr (.inr (8, 21)) c 6 (kArr (.inr (7, 11)) c 5 (kArr (.inr (6, 21)) c 4 (kArr (.inr (5, 41)) c 3 (kArr (.inr (4, 5)) c 2 (kArr (.inr (3, 11)) c 1 σ)))))))) (by decide) (show c < σ.1.1 + 7 by omega)).trans ((kArr_ro (σ := (kArr (.inr (8, 21)) c 6 (kArr (.inr (7, 11)) c 5 (kArr (.inr (6, 21)) c 4 (kArr (.inr (5, 41)) c 3 (kArr (.inr (4, 5)) c 2 (kArr (.inr (3, 11)) c 1 σ))))))) (by decide) (show c < σ.1.1 + 6 by omega)).trans (kArr_rn (σ := (kArr (.inr (7, 11)) c 5 (kArr (.inr (6, 21)) c 4 (kArr (.inr (5, 41)) c 3 (kArr (.inr (4, 5)) c 2 (kArr (.inr (3, 11)) c 1 σ))))))))))
  have ht6 : (k1a c mail σ).1.2.1 (σ.1.1 + 6) = .inr (9, 11) := (show (kArr (.inr (1, 9)) c 8 (kArr (.inr (9, 11)) c 7 (kArr (.inr (8, 21)) c 6 (kArr (.inr (7, 11)) c 5 (kArr (.inr (6, 21)) c 4 (kArr (.inr (5, 41)) c 3 (kArr (.inr (4, 5)) c 2 (kArr (.inr (3, 11)) c 1 σ)))))))).1.2.1 (σ.1.1 + 6) = .inr (9, 11) from ((kArr_to (σ := (kArr (.inr (9, 11)) c 7 (kArr (.inr (8, 21)) c 6 (kArr (.inr (7, 11)) c 5 (kArr (.inr (6, 21)) c 4 (kArr (.inr (5, 41)) c 3 (kArr (.inr (4, 5)) c 2 (kArr (.inr (3, 11)) c 1 σ)))))))) (show σ.1.1 + 6 < σ.1.1 + 7 by omega)).trans (kArr_tn (σ := (kArr (.inr (8, 21)) c 6 (kArr (.inr (7, 11)) c 5 (kArr (.inr (6, 21)) c 4 (kArr (.inr (5, 41)) c 3 (kArr (.inr (4, 5)) c 2 (kArr (.inr (3, 11)) c 1 σ))))))))))
  have hr6 : (k1a c mail σ).1.2.2 c 7 = some (σ.1.1 + 6) := (xup_ne (fun z => absurd z.2 (by decide))).trans (show (kArr (.inr (1, 9)) c 8 (kArr (.inr (9, 11)) c 7 (kArr (.inr (8, 21)) c 6 (kArr (.inr (7, 11)) c 5 (kArr (.inr (6, 21)) c 4 (kArr (.inr (5, 41)) c 3 (kArr (.inr (4, 5)) c 2 (kArr (.inr (3, 11)) c 1 σ)))))))).1.2.2 c 7 = some (σ.1.1 + 6) from ((kArr_ro (σ := (kArr (.inr (9, 11)) c 7 (kArr (.inr (8, 21)) c 6 (kArr (.inr (7, 11)) c 5 (kArr (.inr (6, 21)) c 4 (kArr (.inr (5, 41)) c 3 (kArr (.inr (4, 5)) c 2 (kArr (.inr (3, 11)) c 1 σ)))))))) (by decide) (show c < σ.1.1 + 7 by omega)).trans (kArr_rn (σ := (kArr (.inr (8, 21)) c 6 (kArr (.inr (7, 11)) c 5 (kArr (.inr (6, 21)) c 4 (kArr (.inr (5, 41)) c 3 (kArr (.inr (4, 5)) c 2 (kArr (.inr (3, 11)) c 1 σ))))))))))
  have ht7 : (k1a c mail σ).1.2.1 (σ.1.1 + 7) = .inr (1, 9) := (show (kArr (.inr (1, 9)) c 8 (kArr (.inr (9, 11)) c 7 (kArr (.inr (8, 21)) c 6 (kArr (.inr (7, 11)) c 5 (kArr (.inr (6, 21)) c 4 (kArr (.inr (5, 41)) c 3 (kArr (.inr (4, 5)) c 2 (kArr (.inr (3, 11)) c 1 σ)))))))).1.2.1 (σ.1.1 + 7) = .inr (1, 9) from (kArr_tn (σ := (kArr (.inr (9, 11)) c 7 (kArr (.inr (8, 21)) c 6 (kArr (.inr (7, 11)) c 5 (kArr (.inr (6, 21)) c 4 (kArr (.inr (5, 41)) c 3 (kArr (.inr (4, 5)) c 2 (kArr (.inr (3, 11)) c 1 σ))))))))))
  have hr7 : (k1a c mail σ).1.2.2 c 8 = some (σ.1.1 + 7) := (xup_ne (fun z => absurd z.2 (by decide))).trans (show (kArr (.inr (1, 9)) c 8 (kArr (.inr (9, 11)) c 7 (kArr (.inr (8, 21)) c 6 (kArr (.inr (7, 11)) c 5 (kArr (.inr (6, 21)) c 4 (kArr (.inr (5, 41)) c 3 (kArr (.inr (4, 5)) c 2 (kArr (.inr (3, 11)) c 1 σ)))))))).1.2.2 c 8 = some (σ.1.1 + 7) from (kArr_rn (σ := (kArr (.inr (9, 11)) c 7 (kArr (.inr (8, 21)) c 6 (kArr (.inr (7, 11)) c 5 (kArr (.inr (6, 21)) c 4 (kArr (.inr (5, 41)) c 3 (kArr (.inr (4, 5)) c 2 (kArr (.inr (3, 11)) c 1 σ))))))))))
  have hc0 : (k1a c mail σ).1.2.1 c = .inl 1 := (show (kArr (.inr (1, 9)) c 8 (kArr (.inr (9, 11)) c 7 (kArr (.inr (8, 21)) c 6 (kArr (.inr (7, 11)) c 5 (kArr (.inr (6, 21)) c 4 (kArr (.inr (5, 41)) c 3 (kArr (.inr (4, 5)) c 2 (kArr (.inr (3, 11)) c 1 σ)))))))).1.2.1 c = .inl 1 from ((kArr_to (σ := (kArr (.inr (9, 11)) c 7 (kArr (.inr (8, 21)) c 6 (kArr (.inr (7, 11)) c 5 (kArr (.inr (6, 21)) c 4 (kArr (.inr (5, 41)) c 3 (kArr (.inr (4, 5)) c 2 (kArr (.inr (3, 11)) c 1 σ)))))))) (show c < σ.1.1 + 7 by omega)).trans ((kArr_to (σ := (kArr (.inr (8, 21)) c 6 (kArr (.inr (7, 11)) c 5 (kArr (.inr (6, 21)) c 4 (kArr (.inr (5, 41)) c 3 (kArr (.inr (4, 5)) c 2 (kArr (.inr (3, 11)) c 1 σ))))))) (show c < σ.1.1 + 6 by omega)).trans ((kArr_to (σ := (kArr (.inr (7, 11)) c 5 (kArr (.inr (6, 21)) c 4 (kArr (.inr (5, 41)) c 3 (kArr (.inr (4, 5)) c 2 (kArr (.inr (3, 11)) c 1 σ)))))) (show c < σ.1.1 + 5 by omega)).trans ((kArr_to (σ := (kArr (.inr (6, 21)) c 4 (kArr (.inr (5, 41)) c 3 (kArr (.inr (4, 5)) c 2 (kArr (.inr (3, 11)) c 1 σ))))) (show c < σ.1.1 + 4 by omega)).trans ((kArr_to (σ := (kArr (.inr (5, 41)) c 3 (kArr (.inr (4, 5)) c 2 (kArr (.inr (3, 11)) c 1 σ)))) (show c < σ.1.1 + 3 by omega)).trans ((kArr_to (σ := (kArr (.inr (4, 5)) c 2 (kArr (.inr (3, 11)) c 1 σ))) (show c < σ.1.1 + 2 by omega)).trans ((kArr_to (σ := (kArr (.inr (3, 11)) c 1 σ)) (show c < σ.1.1 + 1 by omega)).trans ((kArr_to (σ := σ) (show c < σ.1.1 + 0 by omega)).trans hc)))))))))
  exact gk_b0 hl (k1a c mail σ) c mail σ.1.1 hlt hlm rfl hN hc0 ht0 hr0 ht1 hr1 ht2 hr2 ht3 hr3 ht4 hr4 ht5 hr5 ht6 hr6 ht7 hr7
