theorem op_amend {M : xM} {n : Nat} (hr : Rel M n) (x am : Int) : OKc (fL_amend 0 x am 406 M) (fX12_amend 400 x am) (n + 1) := by
  have hr0 := hr
  obtain ⟨hR, hV, ⟨h0, hY, hM⟩, hO, -⟩ := id hr
  obtain ⟨hC, hA, hS, hH, hI, hT, hK, hL, hE⟩ := id h0
  unfold fL_amend
  have hb := hC.2.2.1
  have hb3 := hC.2.2.2.1
  have es : ∀ M2 : xM, M2 401 = M 401 → M2 403 = M 403 → M2 = st M2 (M 401) (M 403) (M2 400 7) := fun M2 e1 e3 => by rw [← e1, ← e3]; exact (st_id M2).symm
  -- the model where nothing is OPEN there
  have bad : ∀ M2 : xM, M2 401 = M 401 → M2 403 = M 403 → (inb x (M 401 1542) && decide (M 401 (570 + x.toNat) = 0)) = false → fX12_amend 400 x am M2 = some (.inl (-1), st M2 (M 401) (M 403) (if inb x (M 401 1542) then (if rg am 0 100000000 then 3 else 2) else 1)) := fun M2 e1 e3 ho => by
    rw [m_amend M2 (by rw [e1]; exact hC) x am (d := 0) (by rw [e1, ho]; rfl) (by omega), e1, ho, m_am39 M2 x am _ false (d := 0) rfl (by omega), Bool.false_and, if_f, m_am93, m_am118 M2 (by rw [e1]; exact hC), e1, show (decide ((0 : Int) ≤ -1)) = false from rfl, Bool.false_and]
    have t := m_am_thr (M := M2) (w := M 401) (T := M 403) (h := M2 400 7) x (M 401 (410 + 0)) (-1) false (s := if inb x (M 401 1542) then (if rg am 0 100000000 then 3 else 2) else 1) (by split; split <;> decide; decide) (d := 0) rfl (by omega)
    rw [← es M2 e1 e3, ups_self] at t
    exact t
  cases q : inb x (M 401 1542)
  · exact ok_thr hr hr.stp (e := 0) (by unfold fX11_amend; rw [c_needI hR, q]; rfl) rfl (by decide) (fun M2 e1 e3 _ _ => ⟨-1, M2, by rw [bad M2 e1 e3 (by rw [q]; rfl), q]; rfl, gb.refl M2⟩)
  · obtain ⟨i, rfl, hi⟩ := inb_t q
    have hi4 : i < 40 := by omega
    have kI := (hI i hi4).1 hi
    have hne := kI.2.2.1
    cases q2 : rg am 0 100000000
    · refine ok_thr hr hr.stp (e := 1) (by unfold fX11_amend; rw [c_needI hR, q, if_t, xb_l, c_rng, q2]; rfl) rfl (by decide) (fun M2 e1 e3 _ _ => ⟨-1, M2, ?_, gb.refl M2⟩)
      by_cases z0 : M 401 (570 + i) = 0
      · have ho : (inb (i : Int) (M 401 1542) && decide (M 401 (570 + (i : Int).toNat) = 0)) = true := by rw [q, Int.toNat_natCast, decide_eq_true z0]; rfl
        rw [m_amend M2 (by rw [e1]; exact hC) _ am (d := i) (by rw [e1, ho]; rfl) hi4, e1, ho, q2, m_am39 M2 _ am false true (d := i) rfl hi4, Bool.and_false, if_f, m_am93, m_am118 M2 (by rw [e1]; exact hC), e1, q, if_t, if_f]
        have t := m_am_thr (M := M2) (w := M 401) (T := M 403) (h := M2 400 7) (i : Int) (M 401 (410 + i)) (-1) true (s := 2) (by decide) (d := i) rfl hi4
        rw [← es M2 e1 e3, ups_self] at t
        exact t
      · rw [bad M2 e1 e3 (by rw [q, Int.toNat_natCast, decide_eq_false z0]; rfl), q, q2]; rfl
    · have ham := rg_t q2
      by_cases z0 : M 401 (570 + i) = 0
      · have ho : (inb (i : Int) (M 401 1542) && decide (M 401 (570 + (i : Int).toNat) = 0)) = true := by rw [q, Int.toNat_natCast, decide_eq_true z0]; rfl
        have hAm : ∀ j : Nat, j < 40 → (j : Int) < M 401 1542 → 0 ≤ M 401 (410 + j) ∧ M 401 (410 + j) ≤ 100000000 := fun j hj hl => ((hI j hj).1 hl).2.2.2.2.2.1
        have hw1 : Inv0 (ups (M 401) (410 + i) am) := h0.iam hi4 ham
        have hR1 : R (xup M (61 + i) 5 am) (ups (M 401) (410 + i) am) := hR.iam_up hi4
        have hV1 : MV (xup M (61 + i) 5 am) (ups (M 401) (410 + i) am) := hV.up (by omega) (by omega) (by omega) (by omega) (by omega) (by omega) (by omega)
        have hO1 : told (xup M (61 + i) 5 am) (M 403) := told.c (T := M 403) hO (by omega)
        have hpf := c_pf hR hi4 ham hb.1 hb.2 hAm
        have hmate : ∀ M2 : xM, M2 401 = M 401 → M2 403 = M 403 → fX12_mate 400 (i : Int) (xup M2 401 (410 + i) am) = some (.inl (sMt (M 401) i am (M 401 1542).toNat 0 (-1) 3), st M2 (ups (M 401) (410 + i) am) (M 403) (M2 400 7)) := fun M2 e1 e3 => by
          rw [up401, e1, e3]
          have m := m_mate (M := st M2 (ups (M 401) (410 + i) am) (M 403) (M2 400 7)) (i := i) hi4 (by rw [st_401, ups_same]; exact ham) (by rw [st_401, ups_ne (by omega)]; exact hb.1) (by rw [st_401, ups_ne (by omega)]; exact hb.2) (fun j hj hl => by rw [st_401]; exact ((hw1.2.2.2.2.1 j hj).1 (by rw [st_401] at hl; exact hl)).2.2.2.2.2.1) (fun _ => by rw [st_401, ups_ne (by omega), ups_ne (by omega)]; exact hne)
          rw [m, st_401, ups_same, ups_ne (by omega), sMt_am hi4 hne am _ 0 (-1) 3 (by omega)]
        have hmod : ∀ M2 : xM, M2 401 = M 401 → M2 403 = M 403 → fX12_amend 400 (i : Int) am M2 = fX12_amend_156 400 (i : Int) 1 (M 401 (410 + i)) (sMt (M 401) i am (M 401 1542).toNat 0 (-1) 3) (if (decide (0 ≤ sMt (M 401) i am (M 401 1542).toNat 0 (-1) 3) && decide (M 401 1543 = 20)) then 3 else 0) 400 (st M2 (ups (M 401) (410 + i) am) (M 403) (M2 400 7)) := fun M2 e1 e3 => by
          rw [m_amend M2 (by rw [e1]; exact hC) _ am (d := i) (by rw [e1, ho]; rfl) hi4, e1, ho, q2, m_am39 M2 _ am true true (d := i) rfl hi4, Bool.and_true, if_t, hmate M2 e1 e3, xb_l, e1, m_am93, st_401, ups_ne (by omega), m_am118 _ (by rw [st_401]; exact hw1.1), st_401, ups_ne (by omega), q, if_t, if_t, Bool.true_and]
          cases (decide (0 ≤ sMt (M 401) i am (M 401 1542).toNat 0 (-1) 3) && decide (M 401 1543 = 20)) <;> rfl
        have hcls : fX11_amend 0 (i : Int) am M = (if sMt (M 401) i am (M 401 1542).toNat 0 (-1) 3 = -1 then some (.inl (-1), xup M (61 + i) 5 am) else (if 20 ≤ M 401 1543 then some (.inr 2, M) else xb (fX1_match 3 (i : Int) (sMt (M 401) i am (M 401 1542).toNat 0 (-1) 3) (xup M (61 + i) 5 am)) (fun z4 M5 => xret z4 M5))) := by
          unfold fX11_amend fX11_amend_33 fX11_amend_65 fX11_amend_70
          rw [c_needI hR, q, if_t, xb_l, c_rng, q2, if_t, xb_l, xr_0_1, c_ins (by omega), xb_l, Int.toNat_natCast, hR.ist hi4, if_pos z0, c_sta1, xb_l, hpf, xb_l, hR.nT]
          simp only [c_sta1, c_sta0, xb_l, xb_r, xput_b, xr_0_1]
          by_cases y : sMt (M 401) i am (M 401 1542).toNat 0 (-1) 3 = -1
          · simp only [if_pos y]; rfl
          · simp only [if_neg y]
        rcases sMt_fit (w := M 401) (i := i) (am := am) (M 401 1542).toNat 0 (-1) 3 (Or.inl rfl) with p | ⟨k, p, k1, k2⟩
        · rw [p] at hcls hmod
          rw [if_pos rfl] at hcls
          refine ok_ret hr (w1 := ups (M 401) (410 + i) am) (T1 := M 403) ⟨hR1, hV1, hO1, ⟨hw1, hY.fr (fun j _ => ups_ne (by omega)), (hM.mono (by omega)).fr (fun j _ _ => ups_ne (by omega))⟩, frx (fr0 M) (by omega)⟩ hcls (fun M2 e1 e3 _ _ => ⟨M2, ?_, gb.refl M2⟩)
          rw [hmod M2 e1 e3, show (decide ((0 : Int) ≤ -1)) = false from rfl, Bool.false_and, if_f, m_am_ok, if_neg (by decide)]
        · rw [p] at hcls hmod
          rw [if_neg (by omega)] at hcls
          by_cases y : 20 ≤ M 401 1543
          · rw [if_pos y] at hcls
            refine ok_thr hr hr.stp hcls rfl (by decide) (fun M2 e1 e3 _ _ => ⟨-1, M2, ?_, gb.refl M2⟩)
            rw [hmod M2 e1 e3, decide_eq_true (show (0 : Int) ≤ (k : Int) by omega), decide_eq_true (show M 401 1543 = 20 by omega), Bool.true_and, if_t]
            have t := m_am_thr (M := M2) (w := ups (M 401) (410 + i) am) (T := M 403) (h := M2 400 7) (i : Int) (M 401 (410 + i)) (k : Int) true (s := 3) (by decide) (d := i) rfl hi4
            rw [ups_ups, ups_self] at t
            exact t
          · rw [if_neg y] at hcls
            obtain ⟨t, ht⟩ := ex_nat hb3.1
            obtain ⟨M', g1, g2, g3, g4, g5, g6, g7, g8⟩ := match_step hR1 hV1 hO1 hw1 (i := i) (k := k) (t := t) (by rw [ups_ne (by omega)]; exact hi) (by rw [ups_ne (by omega)]; omega) (by rw [ups_ne (by omega)]; exact z0) (by rw [sFit_am hi4 (by omega)]; exact k2) (by rw [ups_ne (by omega)]; exact ht) (by omega)
            rw [g1, xb_l] at hcls
            refine ok_ret hr (w1 := wMa (ups (M 401) (410 + i) am) i k t) (T1 := sTb (wMa (ups (M 401) (410 + i) am) i k t) (M 403) t) ⟨g2, g3, g4, ⟨g6, (hY.fr (w' := ups (M 401) (410 + i) am) (fun j _ => ups_ne (by omega))).fr (fun j hj => g8 j (by omega)), ((hM.mono (by omega)).fr (w' := ups (M 401) (410 + i) am) (fun j _ _ => ups_ne (by omega))).fr (fun j _ _ => g8 j (by omega))⟩, fun c hc => by rw [g5.fr c hc, xup_row (by omega)]⟩ hcls (fun M2 e1 e3 _ _ => ⟨M2, ?_, gb.refl M2⟩)
            rw [hmod M2 e1 e3, decide_eq_true (show (0 : Int) ≤ (k : Int) by omega), decide_eq_false (show ¬ M 401 1543 = 20 by omega), Bool.true_and, if_f, m_am_ok, if_pos (by omega), g7, xb_l]; rfl
      · refine ok_thr hr hr.stp (e := 2) ?_ rfl (by decide) (fun M2 e1 e3 _ _ => ⟨-1, M2, by rw [bad M2 e1 e3 (by rw [q, Int.toNat_natCast, decide_eq_false z0]; rfl), q, q2]; rfl, gb.refl M2⟩)
        unfold fX11_amend fX11_amend_33
        rw [c_needI hR, q, if_t, xb_l, c_rng, q2, if_t, xb_l, xr_0_1, c_ins (by omega), xb_l, Int.toNat_natCast, hR.ist hi4, if_neg z0, c_sta0]; rfl
