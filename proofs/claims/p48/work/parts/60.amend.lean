theorem m_am_thr {M : xM} {w T : Nat → Int} {h : Int} (x y p : Int) (o : Bool) {s : Int} (hs : 0 < s) {d : Nat} (hd : (if o then x else 0) = (d : Int)) (hd4 : d < 40) : fX12_amend_156 400 x (bi o) y p s 400 (st M w T h) = some (.inl (-1), st M (ups w (410 + d) y) T s) := by
  unfold fX12_amend_156 fX12_amend_179
  rw [m_holds, xb_l, decide_eq_true hs, if_b0, if_t, if_b0, xr_400_0]
  have e : (410 + (d : Int)).toNat = 410 + d := by omega
  cases o
  · rw [if_f] at hd ⊢
    rw [hd, w32_i (by omega) (by omega), xix_t (by omega) (by omega), e, xput_b, st_w]; rfl
  · rw [if_t] at hd ⊢
    rw [hd, w32_i (by omega) (by omega), xix_t (by omega) (by omega), e, xput_b, st_w]; rfl
theorem m_am_ok {M : xM} {w T : Nat → Int} {h : Int} (x x4 y p : Int) : fX12_amend_156 400 x x4 y p 0 400 (st M w T h) = if 0 ≤ p then xb (fX12_matched 400 x p (st M w T 0)) (fun z M4 => xret z M4) else some (.inl (-1), st M w T 0) := by
  unfold fX12_amend_156
  rw [m_holds, xb_l, if_b0, if_d0]; rfl
theorem m_am118 (N : xM) (hC : IC (N 401)) (x y p : Int) (r o f : Bool) : fX12_amend_118 400 x (bi r) (bi o) y p (bi f) N = fX12_amend_156 400 x (bi o) y p (if inb x (N 401 1542) then (if r then (if o && !f then 0 else 3) else 2) else 1) 400 N := by
  unfold fX12_amend_118 fX12_amend_151
  rw [m_isI x N hC, xb_l, if_b0, if_b0, if_b0, if_b0]
  cases inb x (N 401 1542)
  · rfl
  · cases r
    · rfl
    · cases o
      · rfl
      · cases f <;> rfl
theorem m_am93 (N : xM) (x y p : Int) (r o : Bool) : fX12_amend_93 400 x (bi r) (bi o) y p N = fX12_amend_118 400 x (bi r) (bi o) y p (bi (decide (0 ≤ p) && decide (N 401 1543 = 20))) N := by
  unfold fX12_amend_93 fX12_amend_117
  rw [xr_400_0]
  by_cases z : p < 0
  · rw [if_pos z, decide_eq_false (by omega)]; rfl
  · rw [if_neg z, decide_eq_true (show 0 ≤ p by omega)]
    by_cases z2 : N 401 1543 = 20
    · rw [if_pos z2, decide_eq_true z2]; rfl
    · rw [if_neg z2, decide_eq_false z2]; rfl
theorem m_am39 (N : xM) (x am : Int) (r o : Bool) {d : Nat} (hd : (if o then x else 0) = (d : Int)) (hd4 : d < 40) : fX12_amend_39 400 x am (bi r) (bi o) N = if o && r then xb (fX12_mate 400 x (xup N 401 (410 + d) am)) (fun p N2 => fX12_amend_93 400 x (bi r) (bi o) (N 401 (410 + d)) p N2) else fX12_amend_93 400 x (bi r) (bi o) (N 401 (410 + d)) (-1) N := by
  have e : (410 + (d : Int)).toNat = 410 + d := by omega
  unfold fX12_amend_39 fX12_amend_58
  simp only [if_b0, xr_400_0]
  cases o
  · rw [if_f] at hd ⊢
    rw [show (410 : Int) + 0 = 410 + (d : Int) by rw [hd], w32_i (by omega) (by omega), xix_t (by omega) (by omega), e, xlet_b]; rfl
  · rw [if_t] at hd ⊢
    rw [hd, w32_i (by omega) (by omega), xix_t (by omega) (by omega), e, xlet_b, if_t]
    cases r
    · simp only [if_f, Bool.and_false]
    · rw [if_t, xix_t (by omega) (by omega), xput_b]; rfl
theorem m_amend (N : xM) (hC : IC (N 401)) (x am : Int) {d : Nat} (hd : (if inb x (N 401 1542) && decide (N 401 (570 + x.toNat) = 0) then x else 0) = (d : Int)) (hd4 : d < 40) : fX12_amend 400 x am N = fX12_amend_39 400 x am (bi (rg am 0 100000000)) (bi (inb x (N 401 1542) && decide (N 401 (570 + x.toNat) = 0))) N := by
  unfold fX12_amend fX12_amend_38
  have hb := hC.2.2.1
  rw [m_rg, xb_l, m_isI x N hC, xb_l, if_b0]
  cases q : inb x (N 401 1542)
  · rfl
  · obtain ⟨i, rfl, hi⟩ := inb_t q
    rw [if_t, xr_400_0, Int.toNat_natCast]
    simp (disch := omega) only [w32_i, xix_t, tn_add, Int.toNat_natCast, Int.reduceToNat]
    by_cases z : N 401 (570 + i) = 0
    · rw [if_pos z, decide_eq_true z]; rfl
    · rw [if_neg z, decide_eq_false z]; rfl
