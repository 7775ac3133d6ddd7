theorem cg_cash {M : xM} {w : Nat → Int} (hR : R M w) (hC : IC w) (x : Int) : fX11_cash 0 x M = if inb x (w 1540) then some (.inl (w (30 + x.toNat)), M) else some (.inr 0, M) := by
  unfold fX11_cash
  rw [c_needA hR]
  have hb := hC.1
  cases q : inb x (w 1540)
  · rfl
  · obtain ⟨a, rfl, ha⟩ := inb_t q
    rw [if_t, if_t, xb_l, xr_0_1, c_acc (by omega), xb_l, Int.toNat_natCast, Int.toNat_natCast, hR.cash (by omega)]; rfl
theorem mg_cash {M : xM} (hC : IC (M 401)) (x : Int) : fX12_cash 400 x M = if inb x (M 401 1540) then some (.inl (M 401 (30 + x.toNat)), st M (M 401) (M 403) 0) else some (.inl (-1), st M (M 401) (M 403) 1) := by
  unfold fX12_cash fX12_cash_14
  rw [m_isA x M hC, xb_l, if_b0]
  have hb := hC.1
  cases q : inb x (M 401 1540)
  · rw [if_f, if_f, m_holds', xb_l]; rfl
  · obtain ⟨a, rfl, ha⟩ := inb_t q
    rw [if_t, if_t, m_holds', xb_l, if_b0, xr_400_0, st_401]
    skip
    simp (disch := omega) only [w32_i, xix_t, tn_add, Int.toNat_natCast, Int.reduceToNat]; rfl
theorem cg_pledged {M : xM} {w : Nat → Int} (hR : R M w) (hC : IC w) (x : Int) : fX11_pledged 0 x M = if inb x (w 1540) then some (.inl (w (40 + x.toNat)), M) else some (.inr 0, M) := by
  unfold fX11_pledged
  rw [c_needA hR]
  have hb := hC.1
  cases q : inb x (w 1540)
  · rfl
  · obtain ⟨a, rfl, ha⟩ := inb_t q
    rw [if_t, if_t, xb_l, xr_0_1, c_acc (by omega), xb_l, Int.toNat_natCast, Int.toNat_natCast, hR.pled (by omega)]; rfl
theorem mg_pledged {M : xM} (hC : IC (M 401)) (x : Int) : fX12_pledged 400 x M = if inb x (M 401 1540) then some (.inl (M 401 (40 + x.toNat)), st M (M 401) (M 403) 0) else some (.inl (-1), st M (M 401) (M 403) 1) := by
  unfold fX12_pledged fX12_pledged_14
  rw [m_isA x M hC, xb_l, if_b0]
  have hb := hC.1
  cases q : inb x (M 401 1540)
  · rw [if_f, if_f, m_holds', xb_l]; rfl
  · obtain ⟨a, rfl, ha⟩ := inb_t q
    rw [if_t, if_t, m_holds', xb_l, if_b0, xr_400_0, st_401]
    skip
    simp (disch := omega) only [w32_i, xix_t, tn_add, Int.toNat_natCast, Int.reduceToNat]; rfl
theorem cg_ledger {M : xM} {w : Nat → Int} (hR : R M w) (hC : IC w) (x : Int) : fX11_ledger 0 x M = if inb x (w 1540) then some (.inl (w (80 + x.toNat)), M) else some (.inr 0, M) := by
  unfold fX11_ledger
  rw [c_needA hR]
  have hb := hC.1
  cases q : inb x (w 1540)
  · rfl
  · obtain ⟨a, rfl, ha⟩ := inb_t q
    rw [if_t, if_t, xb_l, xr_0_1, c_acc (by omega), xb_l, Int.toNat_natCast, Int.toNat_natCast, hR.ledg (by omega)]; rfl
theorem mg_ledger {M : xM} (hC : IC (M 401)) (x : Int) : fX12_ledger 400 x M = if inb x (M 401 1540) then some (.inl (M 401 (80 + x.toNat)), st M (M 401) (M 403) 0) else some (.inl (-1), st M (M 401) (M 403) 1) := by
  unfold fX12_ledger fX12_ledger_14
  rw [m_isA x M hC, xb_l, if_b0]
  have hb := hC.1
  cases q : inb x (M 401 1540)
  · rw [if_f, if_f, m_holds', xb_l]; rfl
  · obtain ⟨a, rfl, ha⟩ := inb_t q
    rw [if_t, if_t, m_holds', xb_l, if_b0, xr_400_0, st_401]
    skip
    simp (disch := omega) only [w32_i, xix_t, tn_add, Int.toNat_natCast, Int.reduceToNat]; rfl
theorem cg_out {M : xM} {w : Nat → Int} (hR : R M w) (hC : IC w) (x : Int) : fX11_out 0 x M = if inb x (w 1541) then some (.inl (w (192 + x.toNat)), M) else some (.inr 0, M) := by
  unfold fX11_out
  rw [c_needS hR]
  have hb := hC.2.1
  cases q : inb x (w 1541)
  · rfl
  · obtain ⟨a, rfl, ha⟩ := inb_t q
    rw [if_t, if_t, xb_l, xr_0_1, c_sec (by omega), xb_l, Int.toNat_natCast, Int.toNat_natCast, hR.sout (by omega)]; rfl
theorem mg_out {M : xM} (hC : IC (M 401)) (x : Int) : fX12_out 400 x M = if inb x (M 401 1541) then some (.inl (M 401 (192 + x.toNat)), st M (M 401) (M 403) 0) else some (.inl (-1), st M (M 401) (M 403) 1) := by
  unfold fX12_out fX12_out_14
  rw [m_isS x M hC, xb_l, if_b0]
  have hb := hC.2.1
  cases q : inb x (M 401 1541)
  · rw [if_f, if_f, m_holds', xb_l]; rfl
  · obtain ⟨a, rfl, ha⟩ := inb_t q
    rw [if_t, if_t, m_holds', xb_l, if_b0, xr_400_0, st_401]
    skip
    simp (disch := omega) only [w32_i, xix_t, tn_add, Int.toNat_natCast, Int.reduceToNat]; rfl
theorem cg_status {M : xM} {w : Nat → Int} (hR : R M w) (hC : IC w) (x : Int) : fX11_status 0 x M = if inb x (w 1542) then some (.inl (w (570 + x.toNat)), M) else some (.inr 0, M) := by
  unfold fX11_status
  rw [c_needI hR]
  have hb := hC.2.2.1
  cases q : inb x (w 1542)
  · rfl
  · obtain ⟨a, rfl, ha⟩ := inb_t q
    rw [if_t, if_t, xb_l, xr_0_1, c_ins (by omega), xb_l, Int.toNat_natCast, Int.toNat_natCast, hR.ist (by omega)]; rfl
theorem mg_status {M : xM} (hC : IC (M 401)) (x : Int) (hr : ∀ a : Nat, (a : Int) < M 401 1542 → R32 (M 401 (570 + a))) : fX12_status 400 x M = if inb x (M 401 1542) then some (.inl (M 401 (570 + x.toNat)), st M (M 401) (M 403) 0) else some (.inl (-1), st M (M 401) (M 403) 1) := by
  unfold fX12_status fX12_status_14
  rw [m_isI x M hC, xb_l, if_b0]
  have hb := hC.2.2.1
  cases q : inb x (M 401 1542)
  · rw [if_f, if_f, m_holds', xb_l]; rfl
  · obtain ⟨a, rfl, ha⟩ := inb_t q
    rw [if_t, if_t, m_holds', xb_l, if_b0, xr_400_0, st_401]
    have hr2 := hr a ha
    simp (disch := omega) only [w32_id hr2, w32_i, xix_t, tn_add, Int.toNat_natCast, Int.reduceToNat]; rfl
theorem cg_tradeOf {M : xM} {w : Nat → Int} (hR : R M w) (hC : IC w) (x : Int) : fX11_tradeOf 0 x M = if inb x (w 1542) then some (.inl (w (650 + x.toNat)), M) else some (.inr 0, M) := by
  unfold fX11_tradeOf
  rw [c_needI hR]
  have hb := hC.2.2.1
  cases q : inb x (w 1542)
  · rfl
  · obtain ⟨a, rfl, ha⟩ := inb_t q
    rw [if_t, if_t, xb_l, xr_0_1, c_ins (by omega), xb_l, Int.toNat_natCast, Int.toNat_natCast, hR.itr (by omega) (by omega)]; rfl
theorem mg_tradeOf {M : xM} (hC : IC (M 401)) (x : Int) (hr : ∀ a : Nat, (a : Int) < M 401 1542 → R32 (M 401 (650 + a))) : fX12_tradeOf 400 x M = if inb x (M 401 1542) then some (.inl (M 401 (650 + x.toNat)), st M (M 401) (M 403) 0) else some (.inl (-1), st M (M 401) (M 403) 1) := by
  unfold fX12_tradeOf fX12_tradeOf_14
  rw [m_isI x M hC, xb_l, if_b0]
  have hb := hC.2.2.1
  cases q : inb x (M 401 1542)
  · rw [if_f, if_f, m_holds', xb_l]; rfl
  · obtain ⟨a, rfl, ha⟩ := inb_t q
    rw [if_t, if_t, m_holds', xb_l, if_b0, xr_400_0, st_401]
    have hr2 := hr a ha
    simp (disch := omega) only [w32_id hr2, w32_i, xix_t, tn_add, Int.toNat_natCast, Int.reduceToNat]; rfl
theorem cg_tradeUnits {M : xM} {w : Nat → Int} (hR : R M w) (hC : IC w) (x : Int) : fX11_tradeUnits 0 x M = if inb x (w 1543) then some (.inl (w (770 + x.toNat)), M) else some (.inr 0, M) := by
  unfold fX11_tradeUnits
  rw [c_needT hR]
  have hb := hC.2.2.2.1
  cases q : inb x (w 1543)
  · rfl
  · obtain ⟨a, rfl, ha⟩ := inb_t q
    rw [if_t, if_t, xb_l, xr_0_1, c_trd (by omega), xb_l, Int.toNat_natCast, Int.toNat_natCast, hR.tun (by omega)]; rfl
theorem mg_tradeUnits {M : xM} (hC : IC (M 401)) (x : Int) : fX12_tradeUnits 400 x M = if inb x (M 401 1543) then some (.inl (M 401 (770 + x.toNat)), st M (M 401) (M 403) 0) else some (.inl (-1), st M (M 401) (M 403) 1) := by
  unfold fX12_tradeUnits fX12_tradeUnits_14
  rw [m_isT x M hC, xb_l, if_b0]
  have hb := hC.2.2.2.1
  cases q : inb x (M 401 1543)
  · rw [if_f, if_f, m_holds', xb_l]; rfl
  · obtain ⟨a, rfl, ha⟩ := inb_t q
    rw [if_t, if_t, m_holds', xb_l, if_b0, xr_400_0, st_401]
    skip
    simp (disch := omega) only [w32_i, xix_t, tn_add, Int.toNat_natCast, Int.reduceToNat]; rfl
theorem cg_tradeAmount {M : xM} {w : Nat → Int} (hR : R M w) (hC : IC w) (x : Int) : fX11_tradeAmount 0 x M = if inb x (w 1543) then some (.inl (w (790 + x.toNat)), M) else some (.inr 0, M) := by
  unfold fX11_tradeAmount
  rw [c_needT hR]
  have hb := hC.2.2.2.1
  cases q : inb x (w 1543)
  · rfl
  · obtain ⟨a, rfl, ha⟩ := inb_t q
    rw [if_t, if_t, xb_l, xr_0_1, c_trd (by omega), xb_l, Int.toNat_natCast, Int.toNat_natCast, hR.tam (by omega)]; rfl
theorem mg_tradeAmount {M : xM} (hC : IC (M 401)) (x : Int) : fX12_tradeAmount 400 x M = if inb x (M 401 1543) then some (.inl (M 401 (790 + x.toNat)), st M (M 401) (M 403) 0) else some (.inl (-1), st M (M 401) (M 403) 1) := by
  unfold fX12_tradeAmount fX12_tradeAmount_14
  rw [m_isT x M hC, xb_l, if_b0]
  have hb := hC.2.2.2.1
  cases q : inb x (M 401 1543)
  · rw [if_f, if_f, m_holds', xb_l]; rfl
  · obtain ⟨a, rfl, ha⟩ := inb_t q
    rw [if_t, if_t, m_holds', xb_l, if_b0, xr_400_0, st_401]
    skip
    simp (disch := omega) only [w32_i, xix_t, tn_add, Int.toNat_natCast, Int.reduceToNat]; rfl
theorem cg_age {M : xM} {w : Nat → Int} (hR : R M w) (hC : IC w) (x : Int) : fX11_age 0 x M = if inb x (w 1543) then some (.inl (w (850 + x.toNat)), M) else some (.inr 0, M) := by
  unfold fX11_age
  rw [c_needT hR]
  have hb := hC.2.2.2.1
  cases q : inb x (w 1543)
  · rfl
  · obtain ⟨a, rfl, ha⟩ := inb_t q
    rw [if_t, if_t, xb_l, xr_0_1, c_trd (by omega), xb_l, Int.toNat_natCast, Int.toNat_natCast, hR.tage (by omega)]; rfl
theorem mg_age {M : xM} (hC : IC (M 401)) (x : Int) (hr : ∀ a : Nat, (a : Int) < M 401 1543 → R32 (M 401 (850 + a))) : fX12_age 400 x M = if inb x (M 401 1543) then some (.inl (M 401 (850 + x.toNat)), st M (M 401) (M 403) 0) else some (.inl (-1), st M (M 401) (M 403) 1) := by
  unfold fX12_age fX12_age_14
  rw [m_isT x M hC, xb_l, if_b0]
  have hb := hC.2.2.2.1
  cases q : inb x (M 401 1543)
  · rw [if_f, if_f, m_holds', xb_l]; rfl
  · obtain ⟨a, rfl, ha⟩ := inb_t q
    rw [if_t, if_t, m_holds', xb_l, if_b0, xr_400_0, st_401]
    have hr2 := hr a ha
    simp (disch := omega) only [w32_id hr2, w32_i, xix_t, tn_add, Int.toNat_natCast, Int.reduceToNat]; rfl
