theorem putD_1 {c k : Nat} {v : Int} {d : xD} : (putD c k v d).1 = d.1 := rfl
theorem rdEnd : xRd kEnd dJ ∧ (k11 0 1 (xnew kBeg (.inl 11))).1.1 = 400 := by
  have h0 : xRd kBeg ([], [], []) := ⟨rfl, rfl, rfl⟩
  have hA : xRd (xnew kBeg (.inl 11)) dA := h0.new
  have hB : xRd (kN k8 8 0 0 (xnew kBeg (.inl 11))) dB := hA.nN (ini := k8) (iniD := k8D) (fun σ d c h hc _ => rd8 h hc) (show 0 < dB.1.length by rw [dB_len]; decide)
  have hC : xRd (kN (fun x τ => k1 x 1 (x + 1) τ) 1 0 1 (kN k8 8 0 0 (xnew kBeg (.inl 11)))) dC := hB.nN (ini := fun x τ => k1 x 1 (x + 1) τ) (iniD := fun x τ => k1D x 1 (x + 1) τ) (fun σ d c h hc h2 => rd1 h hc h2) (show 0 < dC.1.length by rw [dC_len]; decide)
  have hE : xRd (kN (fun x τ => k1 x 1 (x + 1) τ) 1 0 2 (kN (fun x τ => k1 x 1 (x + 1) τ) 1 0 1 (kN k8 8 0 0 (xnew kBeg (.inl 11))))) dE := hC.nN (ini := fun x τ => k1 x 1 (x + 1) τ) (iniD := fun x τ => k1D x 1 (x + 1) τ) (fun σ d c h hc h2 => rd1 h hc h2) (show 0 < dE.1.length by rw [dE_len]; decide)
  have hF : xRd (kN (fun x τ => k2 x 3 τ) 2 0 3 _) dF := hE.nN (ini := fun x τ => k2 x 3 τ) (iniD := fun x τ => k2D x 3 τ) (ci := 2) (c := 0) (k := 3) (fun σ d c h hc _ => rd2 h hc) (show 0 < dF.1.length by rw [dF_len]; decide)
  have hG : xRd (kN (fun x τ => k3 x 3 τ) 3 0 4 _) dG := hF.nN (ini := fun x τ => k3 x 3 τ) (iniD := fun x τ => k3D x 3 τ) (ci := 3) (c := 0) (k := 4) (fun σ d c h hc _ => rd3 h hc) (show 0 < dG.1.length by rw [dG_len]; decide)
  have hG2 : xRd (k11 0 1 (xnew kBeg (.inl 11))) (putD 0 5 0 dG) := hG.put (show 0 < dG.1.length by rw [dG_len]; decide)
  have hn : (k11 0 1 (xnew kBeg (.inl 11))).1.1 = 400 := hG2.n.trans ((congrArg List.length (putD_1 (d := dG))).trans dG_len)
  exact ⟨hG2.new, hn⟩
theorem kEnd_d : kEnd = ofD (litT, litR, litM) := by rw [rdEnd.1.1, dJ_lit]
def xM0 : xM := kEnd.2
theorem xM0_d : xM0 = fun c k => lkM (litM.getD c []) k := by unfold xM0; rw [kEnd_d]; rfl
theorem litR_len : litR.length = 401 := by decide +kernel
theorem litT_len : litT.length = 401 := by decide +kernel
theorem lkR_none : ∀ (r : List (Nat × Nat)) (k : Nat), (∀ q ∈ r, q.1 < 45) → 45 ≤ k → lkR r k = none
  | [], _, _, _ => rfl
  | q :: r, k, h, hk => by
    have h1 := h q List.mem_cons_self
    rw [lkR, if_neg (by omega)]
    exact lkR_none r k (fun z hz => h z (List.mem_cons_of_mem _ hz)) hk
theorem xLF_rf : (fun c k => lkR (litR.getD c []) k) = xLrf := by
  funext c k
  by_cases hc : c < 401
  · by_cases hk : k < 45
    · exact (show ∀ c : Nat, c < 401 → ∀ k : Nat, k < 45 → lkR (litR.getD c []) k = xLrf c k by decide +kernel) c hc k hk
    · rw [lkR_none _ _ ((show ∀ c : Nat, c < 401 → ∀ q ∈ litR.getD c [], q.1 < 45 by decide +kernel) c hc) (by omega)]
      have h2 : xr c k = 0 := by
        unfold xr
        rw [List.getD_eq_getElem?_getD, List.getElem?_eq_none (by have := (show ∀ c : Nat, c < 401 → (xLrr c).length ≤ 45 by decide +kernel) c hc; omega)]
        rfl
      unfold xLrf; rw [h2]
  · rw [xLrf_out (by omega), List.getD_eq_getElem?_getD, List.getElem?_eq_none (by rw [litR_len]; omega)]
    rfl
theorem xLF_ty {G : xG} : (fun c => litT.getD c (.inl 99)) = (xLG (setN G 401)).2.1 := by
  have e : xGn (setN G 401) = 401 := xGn_set (Nat.le_refl _)
  funext c
  show _ = if c < xGn (setN G 401) then xty c else .inl 99
  rw [e]
  by_cases hc : c < 401
  · rw [if_pos hc]; unfold xty; rw [if_pos hc]
    exact (show ∀ c : Nat, c < 401 → litT.getD c (.inl 99) = xLty c by decide +kernel) c hc
  · rw [if_neg hc, List.getD_eq_getElem?_getD, List.getElem?_eq_none (by rw [litT_len]; omega)]
    rfl
theorem kEnd_eq {G : xG} : kEnd = (xLG (setN G 401), xM0) := by
  have e : xGn (setN G 401) = 401 := xGn_set (Nat.le_refl _)
  rw [xM0_d, kEnd_d]
  show ((litT.length, (fun c => litT.getD c (.inl 99)), fun c k => lkR (litR.getD c []) k), fun c k => lkM (litM.getD c []) k) = _
  rw [litT_len, xLF_rf, xLF_ty (G := G)]
  refine Prod.ext (Prod.ext e.symm (Prod.ext rfl rfl)) rfl
theorem law_pre {l : Launch} {G : xG} (hl : l.stackTraces = false) (tab : List ExceptionTableEntry) (nm : String) {Qr : Option Value → xS → Prop} {Qx : Nat → xS → Prop} (kc ks : Nat) (K : Ev l G (uL_law tab nm) 22 Qr Qx kc ks 12 [some (.ref xSCR), some (.ref 0), some (.ref 400), none, none, none, none, none, none, none, none, none] [] (xLG (setN G 401), xM0)) : Ev l G (uL_law tab nm) 22 Qr Qx (kc + 401) (ks + 4957) 0 [some (.ref xSCR), none, none, none, none, none, none, none, none, none, none, none] [] kBeg := by
  refine kx_new (kc := kc + 400) (ks := ks + 4951) xcl11 tyX11 tyX11_ok (by decide +kernel) xq_0 xq_1 xq_2 dL_law_0 (Eq.refl 3) (by decide) (by omega) (by omega) xok_nil (xol_s (Or.inr rfl) (xol_n (xol_n (xol_n (xol_n (xol_n (xol_n (xol_n (xol_n (xol_n (xol_n (xol_n xol_nil)))))))))))) ?_
  show Ev l G (uL_law tab nm) 22 Qr Qx (kc + 400) (ks + 4951) 3 [some (.ref xSCR), none, none, none, none, none, none, none, none, none, none, none] [.ref 0] (xnew kBeg (.inl 11))
  refine kx_dup dL_law_3 (Eq.refl 4) ?_
  refine kx_callI (kc := kc + 1) (ks := ks + 5) (st := [.ref 0]) (mX11_init hl (xnew kBeg (.inl 11)) 0 1 (by decide) rfl rfl (by decide)) bX11_init xq_5 rfl (by decide) (by decide) dL_law_4 (Eq.refl 7) rfl (by omega) (by omega) (xok_c (Or.inl (by decide)) xok_nil) (xol_s (Or.inr rfl) (xol_n (xol_n (xol_n (xol_n (xol_n (xol_n (xol_n (xol_n (xol_n (xol_n (xol_n xol_nil)))))))))))) ?_
  have h4 := rdEnd.2
  have hE := kEnd_eq (G := G)
  unfold kEnd at hE
  generalize k11 0 1 (xnew kBeg (.inl 11)) = S at h4 hE
  refine xv_astore_n (ls' := [some (.ref xSCR), some (.ref 0), none, none, none, none, none, none, none, none, none, none]) dL_law_7 (show 1 < 12 by decide) rfl ?_
  show Ev l G (uL_law tab nm) 22 Qr Qx (kc + 1) (ks + 5) 8 [some (.ref xSCR), some (.ref 0), none, none, none, none, none, none, none, none, none, none] [] S
  refine kx_iconst dL_law_8 (Eq.refl 9) ?_
  refine kx_newa_i (n := 5) (kc := kc) (ks := ks) xq_3 dL_law_9 (Eq.refl 11) (by decide) (by rw [h4]; decide) (by omega) (by omega) xok_nil (by rw [h4]; exact (xol_s (Or.inr rfl) (xol_s (Or.inl (show (0 : Nat) < 400 by decide)) (xol_n (xol_n (xol_n (xol_n (xol_n (xol_n (xol_n (xol_n (xol_n (xol_n xol_nil))))))))))))) ?_
  rw [h4, hE]
  refine xv_astore_n (ls' := [some (.ref xSCR), some (.ref 0), some (.ref 400), none, none, none, none, none, none, none, none, none]) dL_law_11 (show 2 < 12 by decide) rfl ?_
  exact K
