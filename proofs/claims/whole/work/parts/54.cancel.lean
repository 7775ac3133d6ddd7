theorem Inv0.ican {w : Nat → Int} (h : Inv0 w) {i : Nat} (hi : (i : Int) < w 1542) (h0 : w (570 + i) = 0) : Inv0 (ups w (570 + i) 3) := by
  obtain ⟨hC, hA, hS, hH, hI, hT, hK, hL, hE⟩ := h
  have hb := hC.2.2.1
  have hb3 := hC.2.2.2.1
  refine ⟨hC.fr (fun j _ _ => ups_ne (by omega)), hA.fr hC (fun j _ => ups_ne (by omega)), hS.fr (fun j _ => ups_ne (by omega)), hH.fr (fun j _ => ups_ne (by omega)), ?_, ?_, hK.fr (fun j _ => ups_ne (by omega)), hL.fr (fun j _ => ups_ne (by omega)), hE.fr (fun j _ => ups_ne (by omega))⟩
  · intro d hd
    have k := hI d hd
    by_cases z : d = i
    · subst z
      refine ⟨fun _ => ?_, fun z => by rw [ups_ne (by omega)] at z; omega⟩
      obtain ⟨k1, k2, k3, k4, k5, k6, k7, k8, k9, k10, k11, k12, k13⟩ := k.1 hi
      simp (disch := omega) only [ups_ne, ups_same]
      exact ⟨k1, k2, k3, k4, k5, k6, k7, k8, k9, by omega, k11, fun z => absurd z (by decide), k13⟩
    · refine ⟨fun hl => ?_, fun hl => ?_⟩
      · rw [ups_ne (by omega)] at hl
        have kk := k.1 hl
        have b : (w (650 + d)).toNat < 20 := by have := kk.2.2.2.2.2.2.2.2.2.2.1; omega
        simp only [di, ri] at kk ⊢
        simp (disch := omega) only [ups_ne]
        exact kk
      · rw [ups_ne (by omega)] at hl
        simp (disch := omega) only [ups_ne]; exact k.2 hl
  · intro u hu
    have k := hT u hu
    have hKQ : KQ (ups w (570 + i) 3) = KQ w := KQ_eq (fun e he => ups_ne (by omega))
    refine ⟨fun hl => ?_, fun hl => ?_⟩
    · rw [ups_ne (by omega)] at hl
      have kk := k.1 hl
      have hud : (w (730 + u)).toNat < 40 := by omega
      have hur : (w (750 + u)).toNat < 40 := by omega
      obtain ⟨k1, k2, k3, k4, k5, k6, k7, k8, k9, k10, k11, k12, k13, k14⟩ := kk
      have n1 : (w (730 + u)).toNat ≠ i := fun z => by unfold di at k11; rw [z, h0] at k11; omega
      have n2 : (w (750 + u)).toNat ≠ i := fun z => by unfold ri at k12; rw [z, h0] at k12; omega
      rw [hKQ]
      simp only [di, ri] at k3 k11 k12 k13 k14 ⊢
      simp (disch := omega) only [ups_ne]
      exact ⟨k1, k2, k3, k4, k5, k6, k7, k8, k9, k10, k11, k12, k13, k14⟩
    · rw [ups_ne (by omega)] at hl
      simp (disch := omega) only [ups_ne]; exact k.2 hl
theorem Inv0.flag {w : Nat → Int} (h : Inv0 w) {lo i : Nat} (hlo : lo = 610 ∨ lo = 690) {v : Int} (hv : B01 v) (hi : (i : Int) < w 1542) : Inv0 (ups w (lo + i) v) := by
  obtain ⟨hC, hA, hS, hH, hI, hT, hK, hL, hE⟩ := h
  have hb := hC.2.2.1
  exact ⟨hC.fr (fun j _ _ => ups_ne (by omega)), hA.fr hC (fun j _ => ups_ne (by omega)), hS.fr (fun j _ => ups_ne (by omega)), hH.fr (fun j _ => ups_ne (by omega)), hI.flag hC hlo hv hi (by omega), hT.fr hC (fun j _ => ups_ne (by omega)), hK.fr (fun j _ => ups_ne (by omega)), hL.fr (fun j _ => ups_ne (by omega)), hE.fr (fun j _ => ups_ne (by omega))⟩
/-- what the end of a trade leaves of the rest -/
theorem wOv_far {w : Nat → Int} (h : Inv0 w) {t : Nat} {how : Int} (ht : (t : Int) < w 1543) {j : Nat} (hj : j < 570 ∨ (610 ≤ j ∧ j < 870) ∨ (920 ≤ j ∧ j ≠ 1544)) : wOv w t how j = w j := by
  have f := h.tf ht
  exact wOv_n h.1 (by omega) (by omega) (by omega) (by have := f.1; omega) f.2.1 f.2.2.1
theorem MV.over {M M' : xM} {w : Nat → Int} (hV : MV M w) (h : Inv0 w) {t : Nat} {how : Int} (ht : (t : Int) < w 1543) (ho : ofO M M') : MV M' (wOv w t how) :=
  hV.fr (ho 3 17 (by omega) (by omega) (by omega)) (fun a ha => by funext k; exact ho _ k (by omega) (by omega) (by omega)) (fun e he => ho _ 9 (by omega) (by omega) (by omega)) (fun j _ _ => wOv_far h ht (by omega)) (fun e _ => wOv_far h ht (by omega)) (fun e _ _ => wOv_far h ht (by omega)) (fun j _ _ => wOv_far h ht (by omega))
theorem ofO.fr {M M' : xM} (h : ofO M M') : ∀ c : Nat, (c = 0 ∨ (199 ≤ c ∧ c < 395) ∨ (400 ≤ c ∧ c < 404)) → M' c = M c := fun c hc => by
  funext k; exact h c k (by omega) (by omega) (by omega)
theorem m_can33 {M : xM} (hC : IC (M 401)) {i : Nat} (hi : (i : Int) < M 401 1542) (s : Int) (hs : 0 < s) : fX12_cancel_33 400 (i : Int) s 400 M = some (.inl 0, st M (M 401) (M 403) s) := by
  unfold fX12_cancel_33
  rw [m_holds', xb_l, decide_eq_true hs, if_b0]; rfl
theorem op_cancel {M : xM} {n : Nat} (hr : Rel M n) (x : Int) : OKb (fL_cancel 0 x 406 M) (fX12_cancel 400 x) (n + 1) := by
  have hr0 := hr
  obtain ⟨hR, hV, ⟨h0, hY, hM⟩, hO, -⟩ := id hr
  obtain ⟨hC, hA, hS, hH, hI, hT, hK, hL, hE⟩ := id h0
  unfold fL_cancel fL_cancel_15
  have hb := hC.2.2.1
  have hb3 := hC.2.2.2.1
  have hbA := hC.1
  cases q : inb x (M 401 1542)
  · refine okb_thr hr hr.stp (e := 0) (by unfold fX11_cancel; rw [c_needI hR, q]; rfl) rfl (by decide) (fun M2 e1 e3 _ _ => ⟨0, M2, ?_, gb.refl M2⟩)
    unfold fX12_cancel fX12_cancel_33
    rw [m_isI x M2 (by rw [e1]; exact hC), e1, q, xb_l, if_b0, if_f, m_holds', xb_l, e1, e3]; rfl
  · obtain ⟨i, rfl, hi⟩ := inb_t q
    have kI := (hI i (by omega)).1 hi
    have hs := kI.2.2.2.2.2.2.2.2.2.1
    by_cases z1 : M 401 (570 + i) ≤ 1
    · by_cases z0 : M 401 (570 + i) = 0
      · -- an OPEN one
        obtain ⟨a, ha⟩ := ex_nat kI.1.1
        have ha10 : a < 10 := by omega
        refine okb_ret hr (b := true) (M1 := xup (xup M (61 + i) 9 3) 2 a (w32 (xup M (61 + i) 9 3 2 a + 1))) (w1 := ups (M 401) (570 + i) 3) (T1 := sTel (M 403) a) ⟨(hR.ist_up (by omega)).fr (fun c _ _ => xup_row (by omega)), (hV.up (by omega) (by omega) (by omega) (by omega) (by omega) (by omega) (by omega)).frM (fun c _ _ => xup_row (by omega)), (told.c (T := M 403) hO (by omega)).tel ha10, ⟨h0.ican hi z0, hY.fr (fun j _ => ups_ne (by omega)), (hM.mono (by omega)).fr (fun j _ _ => ups_ne (by omega))⟩, frx (frx (fr0 M) (by omega)) (by omega)⟩ ?_ (fun M2 e1 e3 _ _ => ⟨M2, ?_, gb.refl M2⟩)
        · unfold fX11_cancel fX1_cancelInstruction
          rw [c_needI hR, q, if_t, xb_l, xr_0_1, c_ins (by omega), xb_l, Int.toNat_natCast, c_alive i M (by rw [hR.ist (by omega)]; omega), xb_l, hR.ist (by omega), decide_eq_true z1, c_sta, if_t, xb_l, hR.ist (by omega), if_pos z0, xput_b, xr_3_0, xup_k (by omega), hR.iacc (by omega), ha, c_tell ha10]; rfl
        · unfold fX12_cancel fX12_cancel_33
          rw [m_isI _ M2 (by rw [e1]; exact hC), e1, q, xb_l, if_b0, if_t, xr_400_0, e1]
          simp (disch := omega) only [w32_i, xix_t, tn_add, Int.toNat_natCast, Int.reduceToNat]
          rw [if_pos z1, m_holds', xb_l, if_b0, if_d0, st_401, e1, if_pos z0, xr_400_3]
          simp (disch := omega) only [xput_b, st_w, st_401, ups_ne, ha, w32_i, Int.toNat_natCast, xix_t, st_403, st_t, e3]
          rfl
      · -- a MATCHED one
        have z2 : M 401 (570 + i) = 1 := by omega
        obtain ⟨t1, t2, t3⟩ := kI.2.2.2.2.2.2.2.2.2.2.2.1 z2
        have t4 := kI.2.2.2.2.2.2.2.2.2.2.1
        obtain ⟨t, ht⟩ := ex_nat t1
        rw [ht] at t2 t3 t4
        rw [Int.toNat_natCast] at t2 t3
        have tt : (t : Int) < M 401 1543 := by omega
        have f := h0.tf tt
        have hw1 : Inv0 (ups (M 401) (690 + i) 1) := h0.flag (Or.inr rfl) (Or.inr rfl) hi
        have hR1 : R (xup M (61 + i) 12 1) (ups (M 401) (690 + i) 1) := hR.ican_up (by omega)
        have hV1 : MV (xup M (61 + i) 12 1) (ups (M 401) (690 + i) 1) := hV.up (by omega) (by omega) (by omega) (by omega) (by omega) (by omega) (by omega)
        have hO1 : told (xup M (61 + i) 12 1) (M 403) := told.c (T := M 403) hO (by omega)
        have f' := f.fr (w' := ups (M 401) (690 + i) 1) (fun j hj => ups_ne (by omega))
        obtain ⟨g0, g1, g2, g3, g4, g5, g6, g7, -⟩ := id f
        have tt1 : (t : Int) < ups (M 401) (690 + i) 1 1543 := by rw [ups_ne (by omega)]; exact tt
        have hC1 : IC (ups (M 401) (690 + i) 1) := hw1.1
        have k690 : ∀ d : Nat, d < 40 → (d : Int) < M 401 1542 → B01 (ups (M 401) (690 + i) 1 (690 + d)) := fun d hd hd2 => by
          have := ((hw1.2.2.2.2.1 d hd).1 (by rw [ups_ne (by omega)]; exact hd2)).2.2.2.2.2.2.2.2.2.2.2.2.2.2; exact this
        have kT := (hT t g0).1 tt
        have kd := k690 (di (M 401) t) g1 (by omega)
        have ke := k690 (ri (M 401) t) g2 (by omega)
        have hcls : ∀ F, (fX11_cancel 0 (i : Int) M = F) ↔ ((if ups (M 401) (690 + i) 1 (690 + di (M 401) t) = 0 then some (.inl 0, xup M (61 + i) 12 1) else (if ups (M 401) (690 + i) 1 (690 + ri (M 401) t) = 0 then some (.inl 0, xup M (61 + i) 12 1) else xb (fX1_cancelTrade 3 (102 + t) (xup M (61 + i) 12 1)) (fun _ M19 => xret 1 M19))) = F) := fun F => by
          have : fX11_cancel 0 (i : Int) M = (if ups (M 401) (690 + i) 1 (690 + di (M 401) t) = 0 then some (.inl 0, xup M (61 + i) 12 1) else (if ups (M 401) (690 + i) 1 (690 + ri (M 401) t) = 0 then some (.inl 0, xup M (61 + i) 12 1) else xb (fX1_cancelTrade 3 (102 + t) (xup M (61 + i) 12 1)) (fun _ M19 => xret 1 M19))) := by
            unfold fX11_cancel
            rw [c_needI hR, q, if_t, xb_l, xr_0_1, c_ins (by omega), xb_l, Int.toNat_natCast, c_alive i M (by rw [hR.ist (by omega)]; omega), xb_l, hR.ist (by omega), decide_eq_true z1, c_sta, if_t, xb_l, hR.ist (by omega), if_neg z0, xput_b, xup_k (by omega), hR.itr (by omega) hi, ht, c_trd (by omega), xb_l, Int.toNat_natCast, xup_c (a := 102 + t) (by omega), hR.tdel g0, g6, c_ins (by omega), xb_l, Int.toNat_natCast, hR1.ican g1, xup_c (a := 102 + t) (by omega), hR.trec g0, g7, c_ins (by omega), xb_l, Int.toNat_natCast, hR1.ican g2]; rfl
          rw [this]
        have hmod : ∀ M2 : xM, M2 401 = M 401 → M2 403 = M 403 → fX12_cancel 400 (i : Int) M2 = (if ups (M 401) (690 + i) 1 (690 + di (M 401) t) = 1 then (if ups (M 401) (690 + i) 1 (690 + ri (M 401) t) = 1 then some (.inl 1, st M2 (wOv (ups (M 401) (690 + i) 1) t 2) (sTb (ups (M 401) (690 + i) 1) (M 403) t) 0) else some (.inl 0, st M2 (ups (M 401) (690 + i) 1) (M 403) 0)) else some (.inl 0, st M2 (ups (M 401) (690 + i) 1) (M 403) 0)) := fun M2 e1 e3 => by
          have mo := m_over (M := M2) (w := ups (M 401) (690 + i) 1) (T := M 403) (h := 0) (how := 2) hC1 f'.1 (Or.inr rfl)
          have e6 : ups (M 401) (690 + i) 1 (730 + t) = (di (M 401) t : Int) := by rw [ups_ne (by omega)]; exact g6
          have e7 : ups (M 401) (690 + i) 1 (750 + t) = (ri (M 401) t : Int) := by rw [ups_ne (by omega)]; exact g7
          unfold fX12_cancel fX12_cancel_33 fX12_cancel_168 fX12_cancel_169
          rw [m_isI _ M2 (by rw [e1]; exact hC), e1, q, xb_l, if_b0, if_t, xr_400_0, e1]
          simp (disch := omega) only [w32_i, xix_t, tn_add, Int.toNat_natCast, Int.reduceToNat]
          rw [if_pos z1, m_holds', xb_l, if_b0, if_d0, st_401, e1, if_neg z0, ht]
          simp (disch := omega) only [xput_b, st_w, st_401, w32_i, tn_add, Int.toNat_natCast, Int.reduceToNat, xix_t, xlet_b, e6, e7, e3]
          simp only [if_neg (show ¬ (1 : Int) = 0 by decide), if_pos (show (0 : Int) = 0 from rfl), mo, xb_l]; rfl
        by_cases b1 : ups (M 401) (690 + i) 1 (690 + di (M 401) t) = 1
        · by_cases b2 : ups (M 401) (690 + i) 1 (690 + ri (M 401) t) = 1
          · obtain ⟨M', c1, c2, c3, c4⟩ := c_ct hR1 hO1 hC1 f'.1 tt1
            refine okb_ret hr (b := true) (M1 := M') (w1 := wOv (ups (M 401) (690 + i) 1) t 2) (T1 := sTb (ups (M 401) (690 + i) 1) (M 403) t) ⟨c2, hV1.over hw1 tt1 c4, c3, ⟨hw1.over tt1 (by rw [ups_ne (by omega)]; exact t2) (Or.inr rfl), (hY.fr (w' := ups (M 401) (690 + i) 1) (fun j _ => ups_ne (by omega))).fr (fun j hj => wOv_far hw1 tt1 (by omega)), ((hM.mono (by omega)).fr (w' := ups (M 401) (690 + i) 1) (fun j _ _ => ups_ne (by omega))).fr (fun j _ _ => wOv_far hw1 tt1 (by omega))⟩, fun c hc => by rw [c4.fr c hc, xup_row (by omega)]⟩ ?_ (fun M2 e1 e3 _ _ => ⟨M2, by rw [hmod M2 e1 e3, if_pos b1, if_pos b2]; rfl, gb.refl M2⟩)
            rw [hcls, if_neg (by omega), if_neg (by omega), c1]; rfl
          · have b3 : ups (M 401) (690 + i) 1 (690 + ri (M 401) t) = 0 := by rcases ke with k | k; exact k; exact absurd k b2
            refine okb_ret hr (b := false) (M1 := xup M (61 + i) 12 1) (w1 := ups (M 401) (690 + i) 1) (T1 := M 403) ⟨hR1, hV1, hO1, ⟨hw1, hY.fr (fun j _ => ups_ne (by omega)), (hM.mono (by omega)).fr (fun j _ _ => ups_ne (by omega))⟩, frx (fr0 M) (by omega)⟩ ?_ (fun M2 e1 e3 _ _ => ⟨M2, by rw [hmod M2 e1 e3, if_pos b1, if_neg b2]; rfl, gb.refl M2⟩)
            rw [hcls, if_neg (by omega), if_pos b3]; rfl
        · have b3 : ups (M 401) (690 + i) 1 (690 + di (M 401) t) = 0 := by rcases kd with k | k; exact k; exact absurd k b1
          refine okb_ret hr (b := false) (M1 := xup M (61 + i) 12 1) (w1 := ups (M 401) (690 + i) 1) (T1 := M 403) ⟨hR1, hV1, hO1, ⟨hw1, hY.fr (fun j _ => ups_ne (by omega)), (hM.mono (by omega)).fr (fun j _ _ => ups_ne (by omega))⟩, frx (fr0 M) (by omega)⟩ ?_ (fun M2 e1 e3 _ _ => ⟨M2, by rw [hmod M2 e1 e3, if_neg b1]; rfl, gb.refl M2⟩)
          rw [hcls, if_pos b3]; rfl
    · refine okb_thr hr hr.stp (e := 2) ?_ rfl (by decide) (fun M2 e1 e3 _ _ => ⟨0, M2, ?_, gb.refl M2⟩)
      · unfold fX11_cancel
        rw [c_needI hR, q, if_t, xb_l, xr_0_1, c_ins (by omega), xb_l, Int.toNat_natCast, c_alive i M (by rw [hR.ist (by omega)]; omega), xb_l, hR.ist (by omega), decide_eq_false z1]; rfl
      · unfold fX12_cancel
        rw [m_isI _ M2 (by rw [e1]; exact hC), e1, q, xb_l, if_b0, if_t, xr_400_0, e1]
        simp (disch := omega) only [w32_i, xix_t, tn_add, Int.toNat_natCast, Int.reduceToNat]
        rw [if_neg z1, m_can33 (by rw [e1]; exact hC) (by rw [e1]; exact hi) 2 (by decide), e1, e3]
