theorem Inv0.ican {w : Nat → Int} (h : Inv0 w) {i : Nat} (hi : (i : Int) < w 1542) (h0 : w (570 + i) = 0) : Inv0 (ups w (570 + i) 3) := by
  obtain ⟨hC, hA, hS, hH, hI, hT, hK, hL, hE⟩ := h
  have hb := hC.2.2.1
  have hb3 := hC.2.2.2.1
  refine ⟨hC.fr (fun j _ _ => ups_ne (by omega)), hA.fr hC (fun j _ => ups_ne (by omega)), hS.fr (fun j _ => ups_ne (by omega)), hH.fr (fun j _ => ups_ne (by omega)), ?_, ?_, hK.fr (fun j _ => ups_ne (by omega)), hL.fr (fun j _ => ups_ne (by omega)), hE.fr (fun j _ => ups_ne (by omega))⟩
  · intro d hd
    have k := hI d hd
    by_cases z : d = i
    · subst z
      refine ⟨fun _ => ?_, fun z => by rw [ups_ne (by omega)] at z; omega⟩
      obtain ⟨k1, k2, k3, k4, k5, k6, k7, k8, k9, k10, k11, k12, k13⟩ := k.1 hi
      simp (disch := omega) only [ups_ne, ups_same]
      exact ⟨k1, k2, k3, k4, k5, k6, k7, k8, k9, by omega, k11, fun z => absurd z (by decide), k13⟩
    · refine ⟨fun hl => ?_, fun hl => ?_⟩
      · rw [ups_ne (by omega)] at hl
        have kk := k.1 hl
        have b : (w (650 + d)).toNat < 20 := by have := kk.2.2.2.2.2.2.2.2.2.2.1; omega
        simp only [di, ri] at kk ⊢
        simp (disch := omega) only [ups_ne]
        exact kk
      · rw [ups_ne (by omega)] at hl
        simp (disch := omega) only [ups_ne]; exact k.2 hl
  · intro u hu
    have k := hT u hu
    have hKQ : KQ (ups w (570 + i) 3) = KQ w := KQ_eq (fun e he => ups_ne (by omega))
    refine ⟨fun hl => ?_, fun hl => ?_⟩
    · rw [ups_ne (by omega)] at hl
      have kk := k.1 hl
      have hud : (w (730 + u)).toNat < 40 := by omega
      have hur : (w (750 + u)).toNat < 40 := by omega
      obtain ⟨k1, k2, k3, k4, k5, k6, k7, k8, k9, k10, k11, k12, k13, k14⟩ := kk
      have n1 : (w (730 + u)).toNat ≠ i := fun z => by unfold di at k11; rw [z, h0] at k11; omega
      have n2 : (w (750 + u)).toNat ≠ i := fun z => by unfold ri at k12; rw [z, h0] at k12; omega
      rw [hKQ]
      simp only [di, ri] at k3 k11 k12 k13 k14 ⊢
      simp (disch := omega) only [ups_ne]
      exact ⟨k1, k2, k3, k4, k5, k6, k7, k8, k9, k10, k11, k12, k13, k14⟩
    · rw [ups_ne (by omega)] at hl
      simp (disch := omega) only [ups_ne]; exact k.2 hl
theorem Inv0.flag {w : Nat → Int} (h : Inv0 w) {lo i : Nat} (hlo : lo = 610 ∨ lo = 690) {v : Int} (hv : B01 v) (hi : (i : Int) < w 1542) : Inv0 (ups w (lo + i) v) := by
  obtain ⟨hC, hA, hS, hH, hI, hT, hK, hL, hE⟩ := h
  have hb := hC.2.2.1
  exact ⟨hC.fr (fun j _ _ => ups_ne (by omega)), hA.fr hC (fun j _ => ups_ne (by omega)), hS.fr (fun j _ => ups_ne (by omega)), hH.fr (fun j _ => ups_ne (by omega)), hI.flag hC hlo hv hi (by omega), hT.fr hC (fun j _ => ups_ne (by omega)), hK.fr (fun j _ => ups_ne (by omega)), hL.fr (fun j _ => ups_ne (by omega)), hE.fr (fun j _ => ups_ne (by omega))⟩
/-- what the end of a trade leaves of the rest -/
theorem wOv_far {w : Nat → Int} (h : Inv0 w) {t : Nat} {how : Int} (ht : (t : Int) < w 1543) {j : Nat} (hj : j < 570 ∨ (610 ≤ j ∧ j < 870) ∨ (920 ≤ j ∧ j ≠ 1544)) : wOv w t how j = w j := by
  have f := h.tf ht
  exact wOv_n h.1 (by omega) (by omega) (by omega) (by have := f.1; omega) f.2.1 f.2.2.1
theorem MV.over {M M' : xM} {w : Nat → Int} (hV : MV M w) (h : Inv0 w) {t : Nat} {how : Int} (ht : (t : Int) < w 1543) (ho : ofO M M') : MV M' (wOv w t how) :=
  hV.fr (ho 3 17 (by omega) (by omega) (by omega)) (fun a ha => by funext k; exact ho _ k (by omega) (by omega) (by omega)) (fun e he => ho _ 9 (by omega) (by omega) (by omega)) (fun j _ _ => wOv_far h ht (by omega)) (fun e _ => wOv_far h ht (by omega)) (fun e _ _ => wOv_far h ht (by omega)) (fun j _ _ => wOv_far h ht (by omega))
theorem ofO.fr {M M' : xM} (h : ofO M M') : ∀ c : Nat, (c = 0 ∨ (199 ≤ c ∧ c < 395) ∨ 400 ≤ c) → M' c = M c := fun c hc => by
  funext k; exact h c k (by omega) (by omega) (by omega)
theorem m_can33 {M : xM} (hC : IC (M 401)) {i : Nat} (hi : (i : Int) < M 401 1542) (s : Int) (hs : 0 < s) : fX12_cancel_33 400 (i : Int) s 400 M = some (.inl 0, st M (M 401) (M 403) s) := by
  unfold fX12_cancel_33
  rw [m_holds', xb_l, decide_eq_true hs, if_b0]; rfl
