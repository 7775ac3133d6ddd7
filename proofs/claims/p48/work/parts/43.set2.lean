theorem II.flg {w w' : Nat → Int} (h : II w) (hC : IC w) (hw : ∀ j, ((210 ≤ j ∧ j < 610) ∨ (650 ≤ j ∧ j < 690) ∨ (730 ≤ j ∧ j < 770) ∨ (870 ≤ j ∧ j < 890) ∨ (1540 ≤ j ∧ j ≤ 1543)) → w' j = w j) (hf : ∀ i : Nat, i < 40 → (i : Int) < w 1542 → B01 (w' (610 + i)) ∧ B01 (w' (690 + i))) (hd : ∀ i : Nat, i < 40 → w 1542 ≤ (i : Int) → w' (610 + i) = 0 ∧ w' (690 + i) = 0) : II w' := by
  intro i hi
  have c := hC.2.2.2.1
  obtain ⟨h1, h2⟩ := h i hi
  refine ⟨fun hl => ?_, fun hl => ?_⟩
  · rw [hw 1542 (by omega)] at hl
    have k := h1 hl
    have b : (w (650 + i)).toNat < 20 := by have := k.2.2.2.2.2.2.2.2.2.2.1; omega
    obtain ⟨f1, f2⟩ := hf i hi hl
    clear hf hd h1 h2
    obtain ⟨k1, k2, k3, k4, k5, k6, k7, k8, k9, k10, k11, k12, k13, k14, k15⟩ := k
    clear k14 k15
    simp only [di, ri] at k12 ⊢
    refine ⟨?_, ?_, ?_, ?_, ?_, ?_, ?_, ?_, ?_, ?_, ?_, ?_, ?_, f1, f2⟩
    all_goals clear f1 f2
    all_goals simp (disch := omega) only [hw]
    all_goals assumption
  · rw [hw 1542 (by omega)] at hl
    rw [hw (570 + i) (by omega)]; exact ⟨(h2 hl).1, hd i hi hl⟩
theorem II.flag {w : Nat → Int} (h : II w) (hC : IC w) {lo a : Nat} {v : Int} (hlo : lo = 610 ∨ lo = 690) (hv : B01 v) (ha : (a : Int) < w 1542) (ha2 : a < 40) : II (ups w (lo + a) v) := by
  refine h.flg hC (fun j hj => ups_ne (by omega)) (fun i hi hl => ?_) (fun i hi hl => ?_)
  · have k := ((h i hi).1 hl).2.2.2.2.2.2.2.2.2.2.2.2.2
    unfold ups
    refine ⟨?_, ?_⟩
    · split
      · exact hv
      · exact k.1
    · split
      · exact hv
      · exact k.2
  · have k := (h i hi).2 hl
    rw [ups_ne (by omega), ups_ne (by omega)]; exact k.2
theorem cs_lend {M : xM} {w : Nat → Int} (hR : R M w) (hC : IC w) (x : Int) : fX11_lend 0 x M = if inb x (w 1540) then some (.inl (bi (decide (w (60 + x.toNat) = 0))), xup M (12 + 4 * x.toNat) 3 (bi (decide (w (60 + x.toNat) = 0)))) else some (.inr 0, M) := by
  unfold fX11_lend fX11_lend_27
  rw [c_needA hR]
  have hb := hC.1
  cases q : inb x (w 1540)
  · rfl
  · obtain ⟨a, rfl, ha⟩ := inb_t q
    rw [if_t, if_t, xb_l, xr_0_1, c_acc (by omega), xb_l, Int.toNat_natCast, Int.toNat_natCast, hR.lends (by omega)]
    by_cases z : w (60 + a) = 0
    · rw [if_pos z, decide_eq_true z, xput_b, xup_same]; rfl
    · rw [if_neg z, decide_eq_false z, xput_b, xup_same]; rfl
theorem ms_lend {M : xM} (hC : IC (M 401)) (hA : IA (M 401)) (x : Int) : fX12_lend 400 x M = if inb x (M 401 1540) then some (.inl (bi (decide (M 401 (60 + x.toNat) = 0))), st M (ups (M 401) (60 + x.toNat) (bi (decide (M 401 (60 + x.toNat) = 0)))) (M 403) 0) else some (.inl 0, st M (M 401) (M 403) 1) := by
  unfold fX12_lend fX12_lend_16 fX12_flips fX12_flips_10
  rw [m_isA x M hC, xb_l, if_b0]
  have hb := hC.1
  cases q : inb x (M 401 1540)
  · rw [if_f, if_f, m_isA x M hC, q, xb_l, show bi false = 0 from rfl, if_pos rfl, m_holds', xb_l]; rfl
  · obtain ⟨a, rfl, ha⟩ := inb_t q
    have h1 := (hA a (by omega)).2.2.1
    rw [if_t, if_t, m_isA _ M hC, q, xb_l, show bi true = 1 from rfl, if_neg (by decide), m_holds', xb_l, if_b0, if_d0, xr_400_0, st_401]
    simp (disch := omega) only [w32_i, xix_t, tn_add, Int.toNat_natCast, Int.reduceToNat, xlet_b, xput_b, st_w, st_401, ups_same]
    have e : w64 (1 - M 401 (60 + a)) = bi (decide (M 401 (60 + a) = 0)) := by rcases h1 with h1 | h1 <;> simp only [h1] <;> rfl
    rw [e]
    cases decide (M 401 (60 + a) = 0) <;> rfl
theorem cs_relieve {M : xM} {w : Nat → Int} (hR : R M w) (hC : IC w) (x : Int) : fX11_relieve 0 x M = if inb x (w 1540) then some (.inl (bi (decide (w (70 + x.toNat) = 0))), xup M (12 + 4 * x.toNat) 4 (bi (decide (w (70 + x.toNat) = 0)))) else some (.inr 0, M) := by
  unfold fX11_relieve fX11_relieve_27
  rw [c_needA hR]
  have hb := hC.1
  cases q : inb x (w 1540)
  · rfl
  · obtain ⟨a, rfl, ha⟩ := inb_t q
    rw [if_t, if_t, xb_l, xr_0_1, c_acc (by omega), xb_l, Int.toNat_natCast, Int.toNat_natCast, hR.rel (by omega)]
    by_cases z : w (70 + a) = 0
    · rw [if_pos z, decide_eq_true z, xput_b, xup_same]; rfl
    · rw [if_neg z, decide_eq_false z, xput_b, xup_same]; rfl
theorem ms_relieve {M : xM} (hC : IC (M 401)) (hA : IA (M 401)) (x : Int) : fX12_relieve 400 x M = if inb x (M 401 1540) then some (.inl (bi (decide (M 401 (70 + x.toNat) = 0))), st M (ups (M 401) (70 + x.toNat) (bi (decide (M 401 (70 + x.toNat) = 0)))) (M 403) 0) else some (.inl 0, st M (M 401) (M 403) 1) := by
  unfold fX12_relieve fX12_relieve_16 fX12_flips fX12_flips_10
  rw [m_isA x M hC, xb_l, if_b0]
  have hb := hC.1
  cases q : inb x (M 401 1540)
  · rw [if_f, if_f, m_isA x M hC, q, xb_l, show bi false = 0 from rfl, if_pos rfl, m_holds', xb_l]; rfl
  · obtain ⟨a, rfl, ha⟩ := inb_t q
    have h1 := (hA a (by omega)).2.2.2.1
    rw [if_t, if_t, m_isA _ M hC, q, xb_l, show bi true = 1 from rfl, if_neg (by decide), m_holds', xb_l, if_b0, if_d0, xr_400_0, st_401]
    simp (disch := omega) only [w32_i, xix_t, tn_add, Int.toNat_natCast, Int.reduceToNat, xlet_b, xput_b, st_w, st_401, ups_same]
    have e : w64 (1 - M 401 (70 + a)) = bi (decide (M 401 (70 + a) = 0)) := by rcases h1 with h1 | h1 <;> simp only [h1] <;> rfl
    rw [e]
    cases decide (M 401 (70 + a) = 0) <;> rfl
theorem c_alive (i : Nat) (M : xM) (h : 0 ≤ M (61 + i) 9) : fX5_isAlive (61 + i) M = some (.inl (bi (decide (M (61 + i) 9 ≤ 1))), M) := by
  unfold fX5_isAlive fX5_isAlive_15
  by_cases h0 : M (61 + i) 9 = 0
  · rw [if_pos h0, decide_eq_true (by omega)]; rfl
  · rw [if_neg h0]
    by_cases h1 : M (61 + i) 9 = 1
    · rw [if_pos h1, decide_eq_true (by omega)]; rfl
    · rw [if_neg h1, decide_eq_false (by omega)]; rfl
theorem cs_hold {M : xM} {w : Nat → Int} (hR : R M w) (hC : IC w) (hI : II w) (x : Int) : fX11_hold 0 x M = if inb x (w 1542) then (if decide (w (570 + x.toNat) ≤ 1) then some (.inl (bi (decide (w (610 + x.toNat) = 0))), xup M (61 + x.toNat) 11 (bi (decide (w (610 + x.toNat) = 0)))) else some (.inr 2, M)) else some (.inr 0, M) := by
  unfold fX11_hold fX11_hold_34
  rw [c_needI hR]
  have hb := hC.2.2.1
  cases q : inb x (w 1542)
  · rfl
  · obtain ⟨a, rfl, ha⟩ := inb_t q
    have hs := ((hI a (by omega)).1 ha).2.2.2.2.2.2.2.2.2.1
    rw [if_t, if_t, xb_l, xr_0_1, c_ins (by omega), xb_l, Int.toNat_natCast, Int.toNat_natCast, c_alive a M (by rw [hR.ist (by omega)]; omega), xb_l, hR.ist (by omega), c_sta]
    cases q2 : decide (w (570 + a) ≤ 1)
    · rfl
    · rw [if_t, if_t, xb_l, hR.iheld (by omega)]
      by_cases z : w (610 + a) = 0
      · rw [if_pos z, decide_eq_true z, xput_b, xup_same]; rfl
      · rw [if_neg z, decide_eq_false z, xput_b, xup_same]; rfl
theorem ms_hold {M : xM} (hC : IC (M 401)) (hI : II (M 401)) (x : Int) : fX12_hold 400 x M = if inb x (M 401 1542) then (if decide (M 401 (570 + x.toNat) ≤ 1) then some (.inl (bi (decide (M 401 (610 + x.toNat) = 0))), st M (ups (M 401) (610 + x.toNat) (bi (decide (M 401 (610 + x.toNat) = 0)))) (M 403) 0) else some (.inl 0, st M (M 401) (M 403) 2)) else some (.inl 0, st M (M 401) (M 403) 1) := by
  unfold fX12_hold fX12_hold_33
  rw [m_isI x M hC, xb_l, if_b0]
  have hb := hC.2.2.1
  cases q : inb x (M 401 1542)
  · rw [if_f, if_f, m_holds', xb_l]; rfl
  · obtain ⟨a, rfl, ha⟩ := inb_t q
    have h1 := ((hI a (by omega)).1 ha).2.2.2.2.2.2.2.2.2.2.2.2.2.1
    rw [if_t, if_t, xr_400_0, Int.toNat_natCast]
    simp (disch := omega) only [w32_i, xix_t, tn_add, Int.toNat_natCast, Int.reduceToNat]
    by_cases z : M 401 (570 + a) ≤ 1
    · rw [if_pos z, decide_eq_true z, if_t, m_holds', xb_l, if_b0, if_d0]
      simp (disch := omega) only [w32_i, xix_t, tn_add, Int.toNat_natCast, Int.reduceToNat, xlet_b, xput_b, st_w, st_401, ups_same]
      rcases h1 with h1 | h1
      · rw [h1]; rfl
      · rw [h1]; rfl
    · rw [if_neg z, decide_eq_false z, if_f, m_holds', xb_l]; rfl
