theorem kfr_b7 {A : Nat → Prop} {n n0 : Nat} {σ : xS} (h : n ≤ σ.1.1) : kfr A n σ (k1b7 n0 σ) := kfr_loop (fun k τ h => (kfr.rf h).put) 9 0 σ h
theorem kn_b7 {n0 : Nat} {σ : xS} : (k1b7 n0 σ).1.1 = σ.1.1 := (kn_loop (s := 0) (f := fun k => kPut (n0 + 7) k 15) (fun _ _ => rfl) 9 0 σ).trans (by omega)
theorem kfr_b6 {A : Nat → Prop} {n n0 : Nat} {σ : xS} (h : n ≤ σ.1.1) (h0 : n ≤ n0) : kfr A n σ (k1b6 n0 σ) :=
  have f : kfr A n σ (kLoop (kObj (fun _ => k4) 4 (n0 + 6)) 11 0 σ) := (kfr_loop (fun k τ h => kfr_obj h (fun τ h c hc => kfr_k4 h hc)) 11 0 σ h).wk (Nat.le_refl _) (by rintro c hc rfl; omega)
  f.tr (kfr_b7 (Nat.le_trans h f.2.1))
theorem kn_b6 {n0 : Nat} {σ : xS} : (k1b6 n0 σ).1.1 = σ.1.1 + 44 := by
  show (k1b7 n0 (kLoop (kObj (fun _ => k4) 4 (n0 + 6)) 11 0 σ)).1.1 = _
  rw [kn_b7, kn_loop (s := 4) (f := (kObj (fun _ => k4) 4 (n0 + 6))) (fun _ _ => rfl) 11 0 σ]
theorem kfr_b5 {A : Nat → Prop} {n n0 : Nat} {σ : xS} (h : n ≤ σ.1.1) (h0 : n ≤ n0) : kfr A n σ (k1b5 n0 σ) :=
  have f : kfr A n σ (kLoop (kObj (fun _ _ τ => τ) 7 (n0 + 5)) 21 0 σ) := (kfr_loop (fun k τ h => kfr_obj h (fun τ h c hc => kfr.rf h)) 21 0 σ h).wk (Nat.le_refl _) (by rintro c hc rfl; omega)
  f.tr (kfr_b6 (Nat.le_trans h f.2.1) h0)
theorem kn_b5 {n0 : Nat} {σ : xS} : (k1b5 n0 σ).1.1 = σ.1.1 + 65 := by
  show (k1b6 n0 (kLoop (kObj (fun _ _ τ => τ) 7 (n0 + 5)) 21 0 σ)).1.1 = _
  rw [kn_b6, kn_loop (s := 1) (f := (kObj (fun _ _ τ => τ) 7 (n0 + 5))) (fun _ _ => rfl) 21 0 σ]
theorem kfr_b4 {A : Nat → Prop} {n n0 : Nat} {σ : xS} (h : n ≤ σ.1.1) (h0 : n ≤ n0) : kfr A n σ (k1b4 n0 σ) :=
  have f : kfr A n σ (kLoop (kObj (fun _ _ τ => τ) 6 (n0 + 4)) 11 0 σ) := (kfr_loop (fun k τ h => kfr_obj h (fun τ h c hc => kfr.rf h)) 11 0 σ h).wk (Nat.le_refl _) (by rintro c hc rfl; omega)
  f.tr (kfr_b5 (Nat.le_trans h f.2.1) h0)
theorem kn_b4 {n0 : Nat} {σ : xS} : (k1b4 n0 σ).1.1 = σ.1.1 + 76 := by
  show (k1b5 n0 (kLoop (kObj (fun _ _ τ => τ) 6 (n0 + 4)) 11 0 σ)).1.1 = _
  rw [kn_b5, kn_loop (s := 1) (f := (kObj (fun _ _ τ => τ) 6 (n0 + 4))) (fun _ _ => rfl) 11 0 σ]
theorem kfr_b3 {A : Nat → Prop} {n n0 : Nat} {σ : xS} (h : n ≤ σ.1.1) (h0 : n ≤ n0) : kfr A n σ (k1b3 n0 σ) :=
  have f : kfr A n σ (kLoop (kObj (fun k c => k10 c k) 10 (n0 + 3)) 21 0 σ) := (kfr_loop (fun k τ h => kfr_obj h (fun τ h c hc => kfr_k10 (c := c) (i := k) (σ := τ) h)) 21 0 σ h).wk (Nat.le_refl _) (by rintro c hc rfl; omega)
  f.tr (kfr_b4 (Nat.le_trans h f.2.1) h0)
theorem kn_b3 {n0 : Nat} {σ : xS} : (k1b3 n0 σ).1.1 = σ.1.1 + 97 := by
  show (k1b4 n0 (kLoop (kObj (fun k c => k10 c k) 10 (n0 + 3)) 21 0 σ)).1.1 = _
  rw [kn_b4, kn_loop (s := 1) (f := (kObj (fun k c => k10 c k) 10 (n0 + 3))) (fun _ _ => rfl) 21 0 σ]
theorem kfr_b2 {A : Nat → Prop} {n n0 : Nat} {σ : xS} (h : n ≤ σ.1.1) (h0 : n ≤ n0) : kfr A n σ (k1b2 n0 σ) :=
  have f : kfr A n σ (kLoop (kObj (fun _ => k5) 5 (n0 + 2)) 41 0 σ) := (kfr_loop (fun k τ h => kfr_obj h (fun τ h c hc => kfr_k5 h)) 41 0 σ h).wk (Nat.le_refl _) (by rintro c hc rfl; omega)
  f.tr (kfr_b3 (Nat.le_trans h f.2.1) h0)
theorem kn_b2 {n0 : Nat} {σ : xS} : (k1b2 n0 σ).1.1 = σ.1.1 + 138 := by
  show (k1b3 n0 (kLoop (kObj (fun _ => k5) 5 (n0 + 2)) 41 0 σ)).1.1 = _
  rw [kn_b3, kn_loop (s := 1) (f := (kObj (fun _ => k5) 5 (n0 + 2))) (fun _ _ => rfl) 41 0 σ]
theorem kfr_b1 {A : Nat → Prop} {n n0 : Nat} {σ : xS} (h : n ≤ σ.1.1) (h0 : n ≤ n0) : kfr A n σ (k1b1 n0 σ) :=
  have f : kfr A n σ (kLoop (kObj (fun _ _ τ => τ) 9 (n0 + 1)) 5 0 σ) := (kfr_loop (fun k τ h => kfr_obj h (fun τ h c hc => kfr.rf h)) 5 0 σ h).wk (Nat.le_refl _) (by rintro c hc rfl; omega)
  f.tr (kfr_b2 (Nat.le_trans h f.2.1) h0)
theorem kn_b1 {n0 : Nat} {σ : xS} : (k1b1 n0 σ).1.1 = σ.1.1 + 143 := by
  show (k1b2 n0 (kLoop (kObj (fun _ _ τ => τ) 9 (n0 + 1)) 5 0 σ)).1.1 = _
  rw [kn_b2, kn_loop (s := 1) (f := (kObj (fun _ _ τ => τ) 9 (n0 + 1))) (fun _ _ => rfl) 5 0 σ]
theorem kfr_b0 {A : Nat → Prop} {n n0 : Nat} {σ : xS} (h : n ≤ σ.1.1) (h0 : n ≤ n0) : kfr A n σ (k1b0 n0 σ) :=
  have f : kfr A n σ (kLoop (kObj (fun _ => k0) 0 n0) 11 0 σ) := (kfr_loop (fun k τ h => kfr_obj h (fun τ h c hc => kfr_k0 h hc)) 11 0 σ h).wk (Nat.le_refl _) (by rintro c hc rfl; omega)
  f.tr (kfr_b1 (Nat.le_trans h f.2.1) h0)
theorem kn_b0 {n0 : Nat} {σ : xS} : (k1b0 n0 σ).1.1 = σ.1.1 + 187 := by
  show (k1b1 n0 (kLoop (kObj (fun _ => k0) 0 n0) 11 0 σ)).1.1 = _
  rw [kn_b1, kn_loop (s := 4) (f := (kObj (fun _ => k0) 0 n0)) (fun _ _ => rfl) 11 0 σ]
theorem kfr_k1a {A : Nat → Prop} {n c mail : Nat} {σ : xS} (h : n ≤ σ.1.1) (hc : n ≤ c ∨ A c) : kfr A n σ (k1a c mail σ) := (((((((((kfr.rf h).arr hc).arr hc).arr hc).arr hc).arr hc).arr hc).arr hc).arr hc).ref hc
theorem kfr_k1 {A : Nat → Prop} {n n0 c mail : Nat} {σ : xS} (h : n ≤ σ.1.1) (hc : n ≤ c ∨ A c) (h0 : n ≤ n0) : kfr A n σ (k1 c mail n0 σ) := (kfr_k1a h hc).tr (kfr_b0 (Nat.le_trans h (kfr_k1a (mail := mail) h hc).2.1) h0)
theorem kn_k1 {n0 c mail : Nat} {σ : xS} : (k1 c mail n0 σ).1.1 = σ.1.1 + 195 := by
  show (k1b0 n0 (k1a c mail σ)).1.1 = _
  rw [kn_b0]; rfl
theorem kfr_k2 {A : Nat → Prop} {n c b : Nat} {σ : xS} (h : n ≤ σ.1.1) (hc : n ≤ c ∨ A c) : kfr A n σ (k2 c b σ) := ((((kfr.rf h).arr hc).arr hc).arr hc).ref hc
theorem kfr_k3 {A : Nat → Prop} {n c b : Nat} {σ : xS} (h : n ≤ σ.1.1) (hc : n ≤ c ∨ A c) : kfr A n σ (k3 c b σ) := (kfr.rf h).ref hc
theorem kfr_k8 {A : Nat → Prop} {n c : Nat} {σ : xS} (h : n ≤ σ.1.1) (hc : n ≤ c ∨ A c) : kfr A n σ (k8 c σ) := (kfr.rf h).arr hc
def kN (ini : Nat → xS → xS) (ci c k : Nat) (σ : xS) : xS := kRef c k σ.1.1 (ini σ.1.1 (xnew σ (.inl ci)))
theorem kfr_N {ini : Nat → xS → xS} {ci c k : Nat} {σ : xS} {n : Nat} (hn : n ≤ σ.1.1) (hi : kfr (· = c) n (xnew σ (.inl ci)) (ini σ.1.1 (xnew σ (.inl ci)))) : kfr (· = c) n σ (kN ini ci c k σ) := ((kfr.rf hn).new.tr hi).ref (Or.inr rfl)
def k11a (c n : Nat) (σ : xS) : xS := kPut c 5 0 σ
def k11b (c n : Nat) (σ : xS) : xS := k11a c n (kN (fun x τ => k3 x (n + 2) τ) 3 c 4 σ)
def k11c (c n : Nat) (σ : xS) : xS := k11b c n (kN (fun x τ => k2 x (n + 2) τ) 2 c 3 σ)
def k11d (c n : Nat) (σ : xS) : xS := k11c c n (kN (fun x τ => k1 x n (x + 1) τ) 1 c 2 σ)
def k11e (c n : Nat) (σ : xS) : xS := k11d c n (kN (fun x τ => k1 x n (x + 1) τ) 1 c 1 σ)
def k11 (c n : Nat) (σ : xS) : xS := k11e c n (kN k8 8 c 0 σ)
theorem bX11_init : xYI yX11_init cX11_init 1 0 := ⟨xq_6, xq_2, xq_7, ⟨by decide +kernel, by decide +kernel, by decide +kernel⟩, by decide, rfl⟩
abbrev uX11_init : xU := (RX11, cX11_init, 1, none, [], "<init>")
theorem gX11_init_a {l : Launch} {G : xG} {Qx : Nat → xS → Prop} (S : xS) (c n : Nat) (hc : S.1.2.1 c = .inl 11) : Ev l G uX11_init 3 (fun v σ' => v = none ∧ σ' = k11a c n S) Qx 0 0 75 [some (.ref c)] [] S := by
  refine kx_aload dX11_init_75 (Eq.refl 76) rfl ?_
  refine kx_iconst dX11_init_76 (Eq.refl 77) ?_
  refine kx_putZ (k := 5) xcl11 hc rfl xq_28 rfl (by decide +kernel) dX11_init_77 (Eq.refl 80) rfl (by decide) ?_
  exact kx_vret rfl dX11_init_80 rfl
theorem gX11_init_b {l : Launch} {G : xG} {Qx : Nat → xS → Prop} (hl : l.stackTraces = false) (S : xS) (c n : Nat) (hcn : c < n) (hn : S.1.1 = n + 398) (hN : n + 500 < xSCR) (hc : S.1.2.1 c = .inl 11) (hr1 : S.1.2.2 c 1 = some (n + 2)) : Ev l G uX11_init 3 (fun v σ' => v = none ∧ σ' = k11b c n S) Qx 1 1 60 [some (.ref c)] [] S := by
  have hls : ∀ v, some v ∈ [some (.ref c)] → xokv S.1.1 v := xol_s (Or.inl (show c < S.1.1 by omega)) xol_nil
  have hls2 : ∀ v, some v ∈ [some (.ref c)] → xokv (S.1.1 + 1) v := xol_s (Or.inl (show c < S.1.1 + 1 by omega)) xol_nil
  refine kx_aload dX11_init_60 (Eq.refl 61) rfl ?_
  refine kx_new (kc := 0) (ks := 0) xcl3 tyX3 tyX3_ok (by decide +kernel) xq_24 xq_25 xq_26 dX11_init_61 (Eq.refl 64) (by omega) (by decide) (by decide) (xok_c (Or.inl (show c < S.1.1 by omega)) xok_nil) hls ?_
  refine kx_dup dX11_init_64 (Eq.refl 65) ?_
  refine kx_aload dX11_init_65 (Eq.refl 66) rfl ?_
  refine kx_getR (k := 1) xcl11 ((if_neg (show ¬ c = S.1.1 by omega)).trans hc) rfl xq_18 rfl ((if_neg (show ¬ c = S.1.1 by omega)).trans hr1) dX11_init_66 (Eq.refl 69) ?_
  refine kx_callI (kc := 0) (ks := 0) (st := [.ref S.1.1, .ref c]) (mX3_init hl (xnew S (.inl 3)) S.1.1 (Nat.lt_succ_self _) (if_pos rfl) (n + 2) (show n + 2 < S.1.1 + 1 by omega) (show S.1.1 + 1 + 1 < xSCR by omega)) bX3_init xq_110 rfl (by decide) (Nat.le_of_ble_eq_true rfl) dX11_init_69 (Eq.refl 72) rfl (by decide) (by decide) (xok_c (Or.inl (Nat.lt_succ_self _)) (xok_c (Or.inl (show c < S.1.1 + 1 by omega)) xok_nil)) hls2 ?_
  have f1 : kfr (· = S.1.1) (S.1.1 + 1) (xnew S (.inl 3)) (k3 S.1.1 (n + 2) (xnew S (.inl 3))) := kfr_k3 (b := n + 2) (Nat.le_refl _) (Or.inr rfl)
  have f2 : kfr (· = c) S.1.1 S (kN (fun x τ => k3 x (n + 2) τ) 3 c 4 S) := kfr_N (Nat.le_refl _) (kfr_k3 (b := n + 2) (Nat.le_succ _) (Or.inl (Nat.le_refl _)))
  refine kx_ref (k := 4) (ty := .object "SettlementRing$DayEnd") xcl11 ((f1.2.2.1 c (by omega)).trans ((if_neg (show ¬ c = S.1.1 by omega)).trans hc)) rfl xq_27 rfl (by decide +kernel) (Or.inl ⟨_, rfl⟩) dX11_init_72 (Eq.refl 75) rfl rfl rfl (Nat.lt_of_lt_of_le (Nat.lt_succ_self _) f1.2.1) ?_
  exact gX11_init_a (kN (fun x τ => k3 x (n + 2) τ) 3 c 4 S) c n ((f2.2.2.1 c (by omega)).trans hc)
theorem gX11_init_c {l : Launch} {G : xG} {Qx : Nat → xS → Prop} (hl : l.stackTraces = false) (S : xS) (c n : Nat) (hcn : c < n) (hn : S.1.1 = n + 394) (hN : n + 500 < xSCR) (hc : S.1.2.1 c = .inl 11) (hr1 : S.1.2.2 c 1 = some (n + 2)) : Ev l G uX11_init 3 (fun v σ' => v = none ∧ σ' = k11c c n S) Qx 5 53 45 [some (.ref c)] [] S := by
  have hls : ∀ v, some v ∈ [some (.ref c)] → xokv S.1.1 v := xol_s (Or.inl (show c < S.1.1 by omega)) xol_nil
  have hls2 : ∀ v, some v ∈ [some (.ref c)] → xokv (S.1.1 + 1) v := xol_s (Or.inl (show c < S.1.1 + 1 by omega)) xol_nil
  refine kx_aload dX11_init_45 (Eq.refl 46) rfl ?_
  refine kx_new (kc := 4) (ks := 42) xcl2 tyX2 tyX2_ok (by decide +kernel) xq_20 xq_21 xq_22 dX11_init_46 (Eq.refl 49) (by omega) (by decide) (by decide) (xok_c (Or.inl (show c < S.1.1 by omega)) xok_nil) hls ?_
  refine kx_dup dX11_init_49 (Eq.refl 50) ?_
  refine kx_aload dX11_init_50 (Eq.refl 51) rfl ?_
  refine kx_getR (k := 1) xcl11 ((if_neg (show ¬ c = S.1.1 by omega)).trans hc) rfl xq_18 rfl ((if_neg (show ¬ c = S.1.1 by omega)).trans hr1) dX11_init_51 (Eq.refl 54) ?_
  refine kx_callI (kc := 1) (ks := 1) (st := [.ref S.1.1, .ref c]) (mX2_init hl (xnew S (.inl 2)) S.1.1 (Nat.lt_succ_self _) (if_pos rfl) (n + 2) (show n + 2 < S.1.1 + 1 by omega) (show S.1.1 + 1 + 4 < xSCR by omega)) bX2_init xq_102 rfl (by decide) (Nat.le_of_ble_eq_true rfl) dX11_init_54 (Eq.refl 57) rfl (by decide) (by decide) (xok_c (Or.inl (Nat.lt_succ_self _)) (xok_c (Or.inl (show c < S.1.1 + 1 by omega)) xok_nil)) hls2 ?_
  have f1 : kfr (· = S.1.1) (S.1.1 + 1) (xnew S (.inl 2)) (k2 S.1.1 (n + 2) (xnew S (.inl 2))) := kfr_k2 (b := n + 2) (Nat.le_refl _) (Or.inr rfl)
  have f2 : kfr (· = c) S.1.1 S (kN (fun x τ => k2 x (n + 2) τ) 2 c 3 S) := kfr_N (Nat.le_refl _) (kfr_k2 (b := n + 2) (Nat.le_succ _) (Or.inl (Nat.le_refl _)))
  refine kx_ref (k := 3) (ty := .object "SettlementRing$Cycle") xcl11 ((f1.2.2.1 c (by omega)).trans ((if_neg (show ¬ c = S.1.1 by omega)).trans hc)) rfl xq_23 rfl (by decide +kernel) (Or.inl ⟨_, rfl⟩) dX11_init_57 (Eq.refl 60) rfl rfl rfl (Nat.lt_of_lt_of_le (Nat.lt_succ_self _) f1.2.1) ?_
  exact gX11_init_b hl (kN (fun x τ => k2 x (n + 2) τ) 2 c 3 S) c n hcn (show S.1.1 + 4 = n + 398 by omega) hN ((f2.2.2.1 c (by omega)).trans hc) ((congrFun (show (kN (fun x τ => k2 x (n + 2) τ) 2 c 3 S).1.2.2 c = xup (k2 S.1.1 (n + 2) (xnew S (.inl 2))).1.2.2 c 3 (some S.1.1) c from rfl) 1).trans ((xup_ne (fun z => absurd z.2 (by decide))).trans ((congrFun (f1.2.2.2 c (by omega) (show ¬ c = S.1.1 by omega)) 1).trans ((if_neg (show ¬ c = S.1.1 by omega)).trans hr1))))
theorem gX11_init_d {l : Launch} {G : xG} {Qx : Nat → xS → Prop} (hl : l.stackTraces = false) (S : xS) (c n : Nat) (hcn : c < n) (hn : S.1.1 = n + 198) (hN : n + 500 < xSCR) (hc : S.1.2.1 c = .inl 11) (hr0 : S.1.2.2 c 0 = some n) (hr1 : S.1.2.2 c 1 = some (n + 2)) : Ev l G uX11_init 3 (fun v σ' => v = none ∧ σ' = k11d c n S) Qx 201 2494 30 [some (.ref c)] [] S := by
  have hls : ∀ v, some v ∈ [some (.ref c)] → xokv S.1.1 v := xol_s (Or.inl (show c < S.1.1 by omega)) xol_nil
  have hls2 : ∀ v, some v ∈ [some (.ref c)] → xokv (S.1.1 + 1) v := xol_s (Or.inl (show c < S.1.1 + 1 by omega)) xol_nil
  refine kx_aload dX11_init_30 (Eq.refl 31) rfl ?_
  refine kx_new (kc := 200) (ks := 2476) xcl1 tyX1 tyX1_ok (by decide +kernel) xq_15 xq_16 xq_17 dX11_init_31 (Eq.refl 34) (by omega) (by decide) (by decide) (xok_c (Or.inl (show c < S.1.1 by omega)) xok_nil) hls ?_
  refine kx_dup dX11_init_34 (Eq.refl 35) ?_
  refine kx_aload dX11_init_35 (Eq.refl 36) rfl ?_
  refine kx_getR (k := 0) xcl11 ((if_neg (show ¬ c = S.1.1 by omega)).trans hc) rfl xq_14 rfl ((if_neg (show ¬ c = S.1.1 by omega)).trans hr0) dX11_init_36 (Eq.refl 39) ?_
  refine kx_callI (kc := 5) (ks := 53) (st := [.ref S.1.1, .ref c]) (mX1_init hl (xnew S (.inl 1)) S.1.1 n (Nat.lt_succ_self _) (if_pos rfl) (show n < S.1.1 + 1 by omega) (show S.1.1 + 1 + 200 < xSCR by omega)) bX1_init xq_33 rfl (by decide) (Nat.le_of_ble_eq_true rfl) dX11_init_39 (Eq.refl 42) rfl (by decide) (by decide) (xok_c (Or.inl (Nat.lt_succ_self _)) (xok_c (Or.inl (show c < S.1.1 + 1 by omega)) xok_nil)) hls2 ?_
  have f1 : kfr (· = S.1.1) (S.1.1 + 1) (xnew S (.inl 1)) (k1 S.1.1 n (S.1.1 + 1) (xnew S (.inl 1))) := kfr_k1 (mail := n) (Nat.le_refl _) (Or.inr rfl) (by omega)
  have f2 : kfr (· = c) S.1.1 S (kN (fun x τ => k1 x n (x + 1) τ) 1 c 2 S) := kfr_N (Nat.le_refl _) (kfr_k1 (mail := n) (Nat.le_succ _) (Or.inl (Nat.le_refl _)) (by omega))
  show Ev l G uX11_init 3 _ _ 5 53 42 [some (.ref c)] [.ref S.1.1, .ref c] (k1 S.1.1 n (S.1.1 + 1) (xnew S (.inl 1)))
  refine kx_ref (k := 2) (ty := .object "SettlementRing$Book") xcl11 ((f1.2.2.1 c (by omega)).trans ((if_neg (show ¬ c = S.1.1 by omega)).trans hc)) rfl xq_19 rfl (by decide +kernel) (Or.inl ⟨_, rfl⟩) dX11_init_42 (Eq.refl 45) rfl rfl rfl (Nat.lt_of_lt_of_le (Nat.lt_succ_self _) f1.2.1) ?_
  exact gX11_init_c hl (kN (fun x τ => k1 x n (x + 1) τ) 1 c 2 S) c n hcn ((kn_k1 (n0 := S.1.1 + 1) (c := S.1.1) (mail := n) (σ := xnew S (.inl 1))).trans (show S.1.1 + 1 + 195 = n + 394 by omega)) hN ((f2.2.2.1 c (by omega)).trans hc) ((congrFun (show (kN (fun x τ => k1 x n (x + 1) τ) 1 c 2 S).1.2.2 c = xup (k1 S.1.1 n (S.1.1 + 1) (xnew S (.inl 1))).1.2.2 c 2 (some S.1.1) c from rfl) 1).trans ((xup_ne (fun z => absurd z.2 (by decide))).trans ((congrFun (f1.2.2.2 c (by omega) (show ¬ c = S.1.1 by omega)) 1).trans ((if_neg (show ¬ c = S.1.1 by omega)).trans hr1))))
theorem gX11_init_e {l : Launch} {G : xG} {Qx : Nat → xS → Prop} (hl : l.stackTraces = false) (S : xS) (c n : Nat) (hcn : c < n) (hn : S.1.1 = n + 2) (hN : n + 500 < xSCR) (hc : S.1.2.1 c = .inl 11) (hr0 : S.1.2.2 c 0 = some n) : Ev l G uX11_init 3 (fun v σ' => v = none ∧ σ' = k11e c n S) Qx 397 4935 15 [some (.ref c)] [] S := by
  have hls : ∀ v, some v ∈ [some (.ref c)] → xokv S.1.1 v := xol_s (Or.inl (show c < S.1.1 by omega)) xol_nil
  have hls2 : ∀ v, some v ∈ [some (.ref c)] → xokv (S.1.1 + 1) v := xol_s (Or.inl (show c < S.1.1 + 1 by omega)) xol_nil
  refine kx_aload dX11_init_15 (Eq.refl 16) rfl ?_
  refine kx_new (kc := 396) (ks := 4917) xcl1 tyX1 tyX1_ok (by decide +kernel) xq_15 xq_16 xq_17 dX11_init_16 (Eq.refl 19) (by omega) (by decide) (by decide) (xok_c (Or.inl (show c < S.1.1 by omega)) xok_nil) hls ?_
  refine kx_dup dX11_init_19 (Eq.refl 20) ?_
  refine kx_aload dX11_init_20 (Eq.refl 21) rfl ?_
  refine kx_getR (k := 0) xcl11 ((if_neg (show ¬ c = S.1.1 by omega)).trans hc) rfl xq_14 rfl ((if_neg (show ¬ c = S.1.1 by omega)).trans hr0) dX11_init_21 (Eq.refl 24) ?_
  refine kx_callI (kc := 201) (ks := 2494) (st := [.ref S.1.1, .ref c]) (mX1_init hl (xnew S (.inl 1)) S.1.1 n (Nat.lt_succ_self _) (if_pos rfl) (show n < S.1.1 + 1 by omega) (show S.1.1 + 1 + 200 < xSCR by omega)) bX1_init xq_33 rfl (by decide) (Nat.le_of_ble_eq_true rfl) dX11_init_24 (Eq.refl 27) rfl (by decide) (by decide) (xok_c (Or.inl (Nat.lt_succ_self _)) (xok_c (Or.inl (show c < S.1.1 + 1 by omega)) xok_nil)) hls2 ?_
  have f1 : kfr (· = S.1.1) (S.1.1 + 1) (xnew S (.inl 1)) (k1 S.1.1 n (S.1.1 + 1) (xnew S (.inl 1))) := kfr_k1 (mail := n) (Nat.le_refl _) (Or.inr rfl) (by omega)
  have f2 : kfr (· = c) S.1.1 S (kN (fun x τ => k1 x n (x + 1) τ) 1 c 1 S) := kfr_N (Nat.le_refl _) (kfr_k1 (mail := n) (Nat.le_succ _) (Or.inl (Nat.le_refl _)) (by omega))
  show Ev l G uX11_init 3 _ _ 201 2494 27 [some (.ref c)] [.ref S.1.1, .ref c] (k1 S.1.1 n (S.1.1 + 1) (xnew S (.inl 1)))
  refine kx_ref (k := 1) (ty := .object "SettlementRing$Book") xcl11 ((f1.2.2.1 c (by omega)).trans ((if_neg (show ¬ c = S.1.1 by omega)).trans hc)) rfl xq_18 rfl (by decide +kernel) (Or.inl ⟨_, rfl⟩) dX11_init_27 (Eq.refl 30) rfl rfl rfl (Nat.lt_of_lt_of_le (Nat.lt_succ_self _) f1.2.1) ?_
  exact gX11_init_d hl (kN (fun x τ => k1 x n (x + 1) τ) 1 c 1 S) c n hcn ((kn_k1 (n0 := S.1.1 + 1) (c := S.1.1) (mail := n) (σ := xnew S (.inl 1))).trans (show S.1.1 + 1 + 195 = n + 198 by omega)) hN ((f2.2.2.1 c (by omega)).trans hc) ((congrFun (show (kN (fun x τ => k1 x n (x + 1) τ) 1 c 1 S).1.2.2 c = xup (k1 S.1.1 n (S.1.1 + 1) (xnew S (.inl 1))).1.2.2 c 1 (some S.1.1) c from rfl) 0).trans ((xup_ne (fun z => absurd z.2 (by decide))).trans ((congrFun (f1.2.2.2 c (by omega) (show ¬ c = S.1.1 by omega)) 0).trans ((if_neg (show ¬ c = S.1.1 by omega)).trans hr0)))) (show (kN (fun x τ => k1 x n (x + 1) τ) 1 c 1 S).1.2.2 c 1 = some _ from xup_same.trans (congrArg some (by omega)))
theorem gX11_init_z {l : Launch} {G : xG} {Qx : Nat → xS → Prop} (hl : l.stackTraces = false) (S : xS) (c n : Nat) (hcn : c < n) (hn : S.1.1 = n + 0) (hN : n + 500 < xSCR) (hc : S.1.2.1 c = .inl 11) : Ev l G uX11_init 3 (fun v σ' => v = none ∧ σ' = k11 c n S) Qx 399 4946 4 [some (.ref c)] [] S := by
  have hls : ∀ v, some v ∈ [some (.ref c)] → xokv S.1.1 v := xol_s (Or.inl (show c < S.1.1 by omega)) xol_nil
  have hls2 : ∀ v, some v ∈ [some (.ref c)] → xokv (S.1.1 + 1) v := xol_s (Or.inl (show c < S.1.1 + 1 by omega)) xol_nil
  refine kx_aload dX11_init_4 (Eq.refl 5) rfl ?_
  refine kx_new (kc := 398) (ks := 4945) xcl8 tyX8 tyX8_ok (by decide +kernel) xq_11 xq_12 xq_13 dX11_init_5 (Eq.refl 8) (by omega) (by decide) (by decide) (xok_c (Or.inl (show c < S.1.1 by omega)) xok_nil) hls ?_
  refine kx_dup dX11_init_8 (Eq.refl 9) ?_
  refine kx_callIN (kc := 397) (ks := 4935) (st := [.ref S.1.1, .ref c]) (mX8_init hl (xnew S (.inl 8)) S.1.1 (Nat.lt_succ_self _) (if_pos rfl) (show S.1.1 + 1 + 2 < xSCR by omega)) bX8_init (fun U h => h.2.2.2.2.2.2.1) rfl (by decide) (Nat.le_of_ble_eq_true rfl) dX11_init_9 (Eq.refl 12) rfl (by decide) (by decide) (xok_c (Or.inl (Nat.lt_succ_self _)) (xok_c (Or.inl (show c < S.1.1 + 1 by omega)) xok_nil)) hls2 ?_
  have f1 : kfr (· = S.1.1) (S.1.1 + 1) (xnew S (.inl 8)) (k8 S.1.1 (xnew S (.inl 8))) := kfr_k8 (Nat.le_refl _) (Or.inr rfl)
  have f2 : kfr (· = c) S.1.1 S (kN k8 8 c 0 S) := kfr_N (Nat.le_refl _) (kfr_k8 (Nat.le_succ _) (Or.inl (Nat.le_refl _)))
  refine kx_ref (k := 0) (ty := .object "SettlementRing$Mail") xcl11 ((f1.2.2.1 c (by omega)).trans ((if_neg (show ¬ c = S.1.1 by omega)).trans hc)) rfl xq_14 rfl (by decide +kernel) (Or.inl ⟨_, rfl⟩) dX11_init_12 (Eq.refl 15) rfl rfl rfl (Nat.lt_of_lt_of_le (Nat.lt_succ_self _) f1.2.1) ?_
  exact gX11_init_e hl (kN k8 8 c 0 S) c n hcn (show S.1.1 + 2 = n + 2 by omega) hN ((f2.2.2.1 c (by omega)).trans hc) (show (kN k8 8 c 0 S).1.2.2 c 0 = some _ from xup_same.trans (congrArg some (by omega)))
theorem mX11_init {l : Launch} {G : xG} (hl : l.stackTraces = false) (σ : xS) (c n : Nat) (hcn : c < n) (hn : σ.1.1 = n) (hc : σ.1.2.1 c = .inl 11) (hN : n + 500 < xSCR) : Kt l G yX11_init cX11_init 1 3 399 4946 [.ref c] σ (k11 c n σ) := by
  refine kt_of (u := uX11_init) (ls := [some (.ref c)]) 0 hl rfl (by decide +kernel) (Nat.le_of_ble_eq_true rfl) rfl ?_
  refine kx_aload dX11_init_0 (Eq.refl 1) rfl ?_
  refine kx_obj xq_8 xq_9 xq_10 dX11_init_1 (Eq.refl 4) (by decide) ?_
  exact gX11_init_z hl σ c n hcn hn hN hc
