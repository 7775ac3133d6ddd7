theorem putD_1 {c k : Nat} {v : Int} {d : xD} : (putD c k v d).1 = d.1 := rfl
theorem rdEnd : xRd kEnd dJ ∧ (k11 0 1 (xnew kBeg (.inl 11))).1.1 = 400 := by
  have h0 : xRd kBeg ([], [], []) := ⟨rfl, rfl, rfl⟩
  have hA : xRd (xnew kBeg (.inl 11)) dA := h0.new
  have hB : xRd (kN k8 8 0 0 (xnew kBeg (.inl 11))) dB := hA.nN (ini := k8) (iniD := k8D) (fun σ d c h hc _ => rd8 h hc) (show 0 < dB.1.length by rw [dB_len]; decide)
  have hC : xRd (kN (fun x τ => k1 x 1 (x + 1) τ) 1 0 1 (kN k8 8 0 0 (xnew kBeg (.inl 11)))) dC := hB.nN (ini := fun x τ => k1 x 1 (x + 1) τ) (iniD := fun x τ => k1D x 1 (x + 1) τ) (fun σ d c h hc h2 => rd1 h hc h2) (show 0 < dC.1.length by rw [dC_len]; decide)
  have hE : xRd (kN (fun x τ => k1 x 1 (x + 1) τ) 1 0 2 (kN (fun x τ => k1 x 1 (x + 1) τ) 1 0 1 (kN k8 8 0 0 (xnew kBeg (.inl 11))))) dE := hC.nN (ini := fun x τ => k1 x 1 (x + 1) τ) (iniD := fun x τ => k1D x 1 (x + 1) τ) (fun σ d c h hc h2 => rd1 h hc h2) (show 0 < dE.1.length by rw [dE_len]; decide)
  have hF : xRd (kN (fun x τ => k2 x 3 τ) 2 0 3 _) dF := hE.nN (ini := fun x τ => k2 x 3 τ) (iniD := fun x τ => k2D x 3 τ) (ci := 2) (c := 0) (k := 3) (fun σ d c h hc _ => rd2 h hc) (show 0 < dF.1.length by rw [dF_len]; decide)
  have hG : xRd (kN (fun x τ => k3 x 3 τ) 3 0 4 _) dG := hF.nN (ini := fun x τ => k3 x 3 τ) (iniD := fun x τ => k3D x 3 τ) (ci := 3) (c := 0) (k := 4) (fun σ d c h hc _ => rd3 h hc) (show 0 < dG.1.length by rw [dG_len]; decide)
  have hG2 : xRd (k11 0 1 (xnew kBeg (.inl 11))) (putD 0 5 0 dG) := hG.put (show 0 < dG.1.length by rw [dG_len]; decide)
  have hn : (k11 0 1 (xnew kBeg (.inl 11))).1.1 = 400 := hG2.n.trans ((congrArg List.length (putD_1 (d := dG))).trans dG_len)
  have hH : xRd (xnew (k11 0 1 (xnew kBeg (.inl 11))) (.inl 12)) dH := hG2.new
  have hl : dH.1.length = 401 := newD_len.trans (congrArg (· + 1) ((congrArg List.length (putD_1 (c := 0) (k := 5) (v := 0) (d := dG))).trans dG_len))
  have hI := ((((hH.arr (t := .inr (1, 1550)) (c := 400) (k := 0) (by rw [hl]; decide)).arr (t := .inr (1, 1550)) (c := 400) (k := 1) (by rw [arrD_len, hl]; decide)).arr (t := .inr (0, 10)) (c := 400) (k := 3) (by rw [arrD_len, arrD_len, hl]; decide)).arr (t := .inr (0, 10)) (c := 400) (k := 4) (by rw [arrD_len, arrD_len, arrD_len, hl]; decide)).arr (t := .inr (0, 20)) (c := 400) (k := 6) (by rw [arrD_len, arrD_len, arrD_len, arrD_len, hl]; decide)
  have hI2 : xRd (k12 400 401 (xnew (k11 0 1 (xnew kBeg (.inl 11))) (.inl 12))) dI := (xRd.loop (B := 402) (f := fun k => kPut 401 (196 + k) 15) (g := fun k => putD 401 (196 + k) 15) (fun k σ d h hB => ⟨h.put (by omega), hB⟩) 9 0 _ _ hI (by simp only [arrD_len, hl]; decide)).1
  exact ⟨hI2.new.new, hn⟩
theorem kEnd_d : kEnd = ofD (litT, litR, litM) := by rw [rdEnd.1.1, dJ_lit]
def xM0 : xM := kEnd.2
theorem xM0_d : xM0 = fun c k => lkM (litM.getD c []) k := by unfold xM0; rw [kEnd_d]; rfl
theorem litR_len : litR.length = 408 := by decide +kernel
theorem litT_len : litT.length = 408 := by decide +kernel
theorem lkR_none : ∀ (r : List (Nat × Nat)) (k : Nat), (∀ q ∈ r, q.1 < 45) → 45 ≤ k → lkR r k = none
  | [], _, _, _ => rfl
  | q :: r, k, h, hk => by
    have h1 := h q List.mem_cons_self
    rw [lkR, if_neg (by omega)]
    exact lkR_none r k (fun z hz => h z (List.mem_cons_of_mem _ hz)) hk
theorem xLF_rf : (fun c k => lkR (litR.getD c []) k) = xLrf := by
  funext c k
  by_cases hc : c < 408
  · by_cases hk : k < 45
    · exact (show ∀ c : Nat, c < 408 → ∀ k : Nat, k < 45 → lkR (litR.getD c []) k = xLrf c k by decide +kernel) c hc k hk
    · rw [lkR_none _ _ ((show ∀ c : Nat, c < 408 → ∀ q ∈ litR.getD c [], q.1 < 45 by decide +kernel) c hc) (by omega)]
      have h2 : xr c k = 0 := by
        unfold xr
        rw [List.getD_eq_getElem?_getD, List.getElem?_eq_none (by have := (show ∀ c : Nat, c < 408 → (xLrr c).length ≤ 45 by decide +kernel) c hc; omega)]
        rfl
      unfold xLrf; rw [h2]
  · have h2 : xr c k = 0 := by
      unfold xr xLrr
      rw [if_neg (show ¬ c < 51 by omega), if_neg (show ¬ c < 102 by omega), if_neg (show ¬ c < 153 by omega), if_neg (show ¬ c < 204 by omega), if_neg (show ¬ c < 255 by omega), if_neg (show ¬ c < 306 by omega), if_neg (show ¬ c < 357 by omega), List.getD_eq_getElem?_getD (l := xrfL7), List.getElem?_eq_none (by show 51 ≤ _; omega)]
      rfl
    unfold xLrf; rw [h2, List.getD_eq_getElem?_getD, List.getElem?_eq_none (by rw [litR_len]; omega)]
    rfl
theorem xLF_ty : (fun c => litT.getD c (.inl 99)) = xLty := by
  funext c
  by_cases hc : c < 408
  · exact (show ∀ c : Nat, c < 408 → litT.getD c (.inl 99) = xLty c by decide +kernel) c hc
  · rw [xLty_out c (by omega), List.getD_eq_getElem?_getD, List.getElem?_eq_none (by rw [litT_len]; omega)]
    rfl
theorem kEnd_eq : kEnd = (xLF, xM0) := by
  rw [xM0_d, kEnd_d]
  show ((litT.length, (fun c => litT.getD c (.inl 99)), fun c k => lkR (litR.getD c []) k), fun c k => lkM (litM.getD c []) k) = _
  rw [litT_len, xLF_rf, xLF_ty]
  rfl
theorem law_pre {l : Launch} {G : xG} (hl : l.stackTraces = false) (tab : List ExceptionTableEntry) (nm : String) {Qr : Option Value → xS → Prop} {Qx : Nat → xS → Prop} (kc ks : Nat) (K : Ev l G (uL_law tab nm) 21 Qr Qx kc ks 28 [some (.ref xSCR), some (.ref 0), some (.ref 400), some (.ref 406), some (.ref 407), some (iv 0), none, none, none] [] (xLF, xM0)) : Ev l G (uL_law tab nm) 21 Qr Qx (kc + 408) (ks + 8102) 0 [some (.ref xSCR), none, none, none, none, none, none, none, none] [] kBeg := by
  refine kx_new (kc := kc + 407) (ks := ks + 8096) xcl11 tyX11 tyX11_ok (by decide +kernel) xq_0 xq_1 xq_2 dL_law_0 (Eq.refl 3) (by decide) (by omega) (by omega) xok_nil (xol_s (Or.inr rfl) (xol_n (xol_n (xol_n (xol_n (xol_n (xol_n (xol_n (xol_n xol_nil))))))))) ?_
  show Ev l G (uL_law tab nm) 21 Qr Qx (kc + 407) (ks + 8096) 3 [some (.ref xSCR), none, none, none, none, none, none, none, none] [.ref 0] (xnew kBeg (.inl 11))
  refine kx_dup dL_law_3 (Eq.refl 4) ?_
  refine kx_callI (kc := kc + 8) (ks := ks + 3150) (st := [.ref 0]) (mX11_init hl (xnew kBeg (.inl 11)) 0 1 (by decide) rfl rfl (by decide)) bX11_init xq_8 rfl (by decide) (by decide) dL_law_4 (Eq.refl 7) rfl (by omega) (by omega) (xok_c (Or.inl (by decide)) xok_nil) (xol_s (Or.inr rfl) (xol_n (xol_n (xol_n (xol_n (xol_n (xol_n (xol_n (xol_n xol_nil))))))))) ?_
  have h4 := rdEnd.2
  have hE := kEnd_eq
  unfold kEnd at hE
  generalize k11 0 1 (xnew kBeg (.inl 11)) = S at h4 hE
  refine xv_astore_n (ls' := [some (.ref xSCR), some (.ref 0), none, none, none, none, none, none, none]) dL_law_7 (show 1 < 9 by decide) rfl ?_
  show Ev l G (uL_law tab nm) 21 Qr Qx (kc + 8) (ks + 3150) 8 [some (.ref xSCR), some (.ref 0), none, none, none, none, none, none, none] [] S
  refine kx_new (kc := kc + 7) (ks := ks + 3142) xcl12 tyX12 tyX12_ok (by decide +kernel) xq_3 xq_4 xq_5 dL_law_8 (Eq.refl 11) (by rw [h4]; decide) (by omega) (by omega) xok_nil (xol_s (Or.inr rfl) (xol_s (Or.inl (show (0 : Nat) < S.1.1 by omega)) (xol_n (xol_n (xol_n (xol_n (xol_n (xol_n (xol_n xol_nil))))))))) ?_
  rw [h4]
  refine kx_dup dL_law_11 (Eq.refl 12) ?_
  have h5 : (xnew S (.inl 12)).1.1 = 401 := congrArg (· + 1) h4
  refine kx_callI (kc := kc + 2) (ks := ks + 2) (st := [.ref 400]) (mX12_init hl (xnew S (.inl 12)) 400 (by rw [h5]; decide) (if_pos h4.symm) (by rw [h5]; decide)) bX12_init xq_118 rfl (by decide) (by decide) dL_law_12 (Eq.refl 15) rfl (by omega) (by omega) (xok_c (Or.inl (by rw [h5]; decide)) xok_nil) (by rw [h5]; exact (xol_s (Or.inr rfl) (xol_s (Or.inl (show (0 : Nat) < 401 by decide)) (xol_n (xol_n (xol_n (xol_n (xol_n (xol_n (xol_n xol_nil)))))))))) ?_
  rw [h5]
  have h6 : (k12 400 401 (xnew S (.inl 12))).1.1 = 406 := (kn_loop (s := 0) (f := fun k => kPut 401 (196 + k) 15) (fun _ _ => rfl) 9 0 _).trans (show S.1.1 + 1 + 1 + 1 + 1 + 1 + 1 + 9 * 0 = 406 by rw [h4])
  generalize k12 400 401 (xnew S (.inl 12)) = S2 at h6 hE
  refine xv_astore_n (ls' := [some (.ref xSCR), some (.ref 0), some (.ref 400), none, none, none, none, none, none]) dL_law_15 (show 2 < 9 by decide) rfl ?_
  show Ev l G (uL_law tab nm) 21 Qr Qx (kc + 2) (ks + 2) 16 [some (.ref xSCR), some (.ref 0), some (.ref 400), none, none, none, none, none, none] [] S2
  refine kx_iconst dL_law_16 (Eq.refl 17) ?_
  refine kx_newa_l (n := 1) (kc := kc + 1) (ks := ks + 1) xq_6 dL_law_17 (Eq.refl 19) (by decide) (by rw [h6]; decide) (by omega) (by omega) xok_nil (by rw [h6]; exact (xol_s (Or.inr rfl) (xol_s (Or.inl (show (0 : Nat) < 406 by decide)) (xol_s (Or.inl (show (400 : Nat) < 406 by decide)) (xol_n (xol_n (xol_n (xol_n (xol_n (xol_n xol_nil)))))))))) ?_
  rw [h6]
  refine xv_astore_n (ls' := [some (.ref xSCR), some (.ref 0), some (.ref 400), some (.ref 406), none, none, none, none, none]) dL_law_19 (show 3 < 9 by decide) rfl ?_
  have h7 : (xnew S2 (.inr (1, 1))).1.1 = 407 := congrArg (· + 1) h6
  show Ev l G (uL_law tab nm) 21 Qr Qx (kc + 1) (ks + 1) 20 [some (.ref xSCR), some (.ref 0), some (.ref 400), some (.ref 406), none, none, none, none, none] [] (xnew S2 (.inr (1, 1)))
  refine kx_iconst dL_law_20 (Eq.refl 21) ?_
  refine kx_newa_d (n := 1) (kc := kc) (ks := ks) xq_7 dL_law_21 (Eq.refl 23) (by decide) (by rw [h7]; decide) (by omega) (by omega) xok_nil (by rw [h7]; exact (xol_s (Or.inr rfl) (xol_s (Or.inl (show (0 : Nat) < 407 by decide)) (xol_s (Or.inl (show (400 : Nat) < 407 by decide)) (xol_s (Or.inl (show (406 : Nat) < 407 by decide)) (xol_n (xol_n (xol_n (xol_n (xol_n xol_nil)))))))))) ?_
  rw [h7, hE]
  refine xv_astore (ls' := [some (.ref xSCR), some (.ref 0), some (.ref 400), some (.ref 406), some (.ref 407), none, none, none, none]) dL_law_23 (show 4 < 9 by decide) rfl ?_
  show Ev l G (uL_law tab nm) 21 Qr Qx kc ks 25 [some (.ref xSCR), some (.ref 0), some (.ref 400), some (.ref 406), some (.ref 407), none, none, none, none] [] (xLF, xM0)
  refine kx_iconst dL_law_25 (Eq.refl 26) ?_
  refine xv_istore (ls' := [some (.ref xSCR), some (.ref 0), some (.ref 400), some (.ref 406), some (.ref 407), some (iv 0), none, none, none]) dL_law_26 (show 5 < 9 by decide) rfl ?_
  exact K
