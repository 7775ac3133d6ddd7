theorem op_cash {M : xM} {n : Nat} (hr : Rel M n) (x : Int) : OKc (fL_cash 0 x 406 M) (fX12_cash 400 x) (n + 1) := by
  obtain ⟨hR, hV, ⟨⟨hC, hA, hS, hH, hI, hT, hK, hL, hE⟩, hY, hM⟩, hO, -⟩ := id hr
  unfold fL_cash
  exact ok_get' hr rfl (cg_cash hR hC x) (fun M1 e1 e3 => ⟨_, by rw [mg_cash (by rw [e1]; exact hC) x, e1, e3]⟩)
theorem op_pledged {M : xM} {n : Nat} (hr : Rel M n) (x : Int) : OKc (fL_pledged 0 x 406 M) (fX12_pledged 400 x) (n + 1) := by
  obtain ⟨hR, hV, ⟨⟨hC, hA, hS, hH, hI, hT, hK, hL, hE⟩, hY, hM⟩, hO, -⟩ := id hr
  unfold fL_pledged
  exact ok_get' hr rfl (cg_pledged hR hC x) (fun M1 e1 e3 => ⟨_, by rw [mg_pledged (by rw [e1]; exact hC) x, e1, e3]⟩)
theorem op_ledger {M : xM} {n : Nat} (hr : Rel M n) (x : Int) : OKc (fL_ledger 0 x 406 M) (fX12_ledger 400 x) (n + 1) := by
  obtain ⟨hR, hV, ⟨⟨hC, hA, hS, hH, hI, hT, hK, hL, hE⟩, hY, hM⟩, hO, -⟩ := id hr
  unfold fL_ledger
  exact ok_get' hr rfl (cg_ledger hR hC x) (fun M1 e1 e3 => ⟨_, by rw [mg_ledger (by rw [e1]; exact hC) x, e1, e3]⟩)
theorem op_out {M : xM} {n : Nat} (hr : Rel M n) (x : Int) : OKc (fL_out 0 x 406 M) (fX12_out 400 x) (n + 1) := by
  obtain ⟨hR, hV, ⟨⟨hC, hA, hS, hH, hI, hT, hK, hL, hE⟩, hY, hM⟩, hO, -⟩ := id hr
  unfold fL_out
  exact ok_get' hr rfl (cg_out hR hC x) (fun M1 e1 e3 => ⟨_, by rw [mg_out (by rw [e1]; exact hC) x, e1, e3]⟩)
theorem op_tradeUnits {M : xM} {n : Nat} (hr : Rel M n) (x : Int) : OKc (fL_tradeUnits 0 x 406 M) (fX12_tradeUnits 400 x) (n + 1) := by
  obtain ⟨hR, hV, ⟨⟨hC, hA, hS, hH, hI, hT, hK, hL, hE⟩, hY, hM⟩, hO, -⟩ := id hr
  unfold fL_tradeUnits
  exact ok_get' hr rfl (cg_tradeUnits hR hC x) (fun M1 e1 e3 => ⟨_, by rw [mg_tradeUnits (by rw [e1]; exact hC) x, e1, e3]⟩)
theorem op_tradeAmount {M : xM} {n : Nat} (hr : Rel M n) (x : Int) : OKc (fL_tradeAmount 0 x 406 M) (fX12_tradeAmount 400 x) (n + 1) := by
  obtain ⟨hR, hV, ⟨⟨hC, hA, hS, hH, hI, hT, hK, hL, hE⟩, hY, hM⟩, hO, -⟩ := id hr
  unfold fL_tradeAmount
  exact ok_get' hr rfl (cg_tradeAmount hR hC x) (fun M1 e1 e3 => ⟨_, by rw [mg_tradeAmount (by rw [e1]; exact hC) x, e1, e3]⟩)
theorem op_status {M : xM} {n : Nat} (hr : Rel M n) (x : Int) : OKc (fL_status 0 x 406 M) (fX12_status 400 x) (n + 1) := by
  obtain ⟨hR, hV, ⟨⟨hC, hA, hS, hH, hI, hT, hK, hL, hE⟩, hY, hM⟩, hO, -⟩ := id hr
  unfold fL_status
  exact ok_get' hr rfl (cg_status hR hC x) (fun M1 e1 e3 => ⟨_, by rw [mg_status (by rw [e1]; exact hC) x (fun a ha => by rw [e1] at ha ⊢; have := hC.2.2.1; have := ((hI a (by omega)).1 ha).2.2.2.2.2.2.2.2.2.1; exact ⟨by omega, by omega⟩), e1, e3]⟩)
theorem op_tradeOf {M : xM} {n : Nat} (hr : Rel M n) (x : Int) : OKc (fL_tradeOf 0 x 406 M) (fX12_tradeOf 400 x) (n + 1) := by
  obtain ⟨hR, hV, ⟨⟨hC, hA, hS, hH, hI, hT, hK, hL, hE⟩, hY, hM⟩, hO, -⟩ := id hr
  unfold fL_tradeOf
  exact ok_get' hr rfl (cg_tradeOf hR hC x) (fun M1 e1 e3 => ⟨_, by rw [mg_tradeOf (by rw [e1]; exact hC) x (fun a ha => by rw [e1] at ha ⊢; have := hC.2.2.1; have := hC.2.2.2.1; have := ((hI a (by omega)).1 ha).2.2.2.2.2.2.2.2.2.2.1; exact ⟨by omega, by omega⟩), e1, e3]⟩)
theorem op_age {M : xM} {n : Nat} (hr : Rel M n) (x : Int) : OKc (fL_age 0 x 406 M) (fX12_age 400 x) (n + 1) := by
  obtain ⟨hR, hV, ⟨⟨hC, hA, hS, hH, hI, hT, hK, hL, hE⟩, hY, hM⟩, hO, -⟩ := id hr
  unfold fL_age
  exact ok_get' hr rfl (cg_age hR hC x) (fun M1 e1 e3 => ⟨_, by rw [mg_age (by rw [e1]; exact hC) x (fun a ha => by rw [e1] at ha ⊢; have := hC.2.2.2.1; have := hC.2.2.2.2.2.2.2; have := ((hT a (by omega)).1 ha).2.2.2.2.2.2.2.2.1; exact ⟨by omega, by omega⟩), e1, e3]⟩)
theorem op_limit {M : xM} {n : Nat} (hr : Rel M n) (x : Int) : OKc (fL_limit 0 x 406 M) (fX12_limit 400 x) (n + 1) := by
  obtain ⟨hR, hV, ⟨⟨hC, hA, hS, hH, hI, hT, hK, hL, hE⟩, hY, hM⟩, hO, -⟩ := id hr
  unfold fL_limit
  exact ok_get' hr rfl (cg_limit hR hC hS hH x) (fun M1 e1 e3 => ⟨_, by rw [mg_limit (by rw [e1]; exact hC) x, e1, e3]⟩)
theorem op_messages {M : xM} {n : Nat} (hr : Rel M n) (x : Int) : OKc (fL_messages 0 x 406 M) (fX12_messages 400 x) (n + 1) := by
  obtain ⟨hR, hV, ⟨⟨hC, hA, hS, hH, hI, hT, hK, hL, hE⟩, hY, hM⟩, hO, -⟩ := id hr
  unfold fL_messages
  exact ok_get' hr rfl (cg_messages hR hC hO x) (fun M1 e1 e3 => ⟨_, by rw [mg_messages (by rw [e1]; exact hC) x, e1, e3]⟩)
theorem op_loan {M : xM} {n : Nat} (hr : Rel M n) (x : Int) : OKc (fL_loan 0 x 406 M) (fX12_loan 400 x) (n + 1) := by
  obtain ⟨hR, hV, ⟨⟨hC, hA, hS, hH, hI, hT, hK, hL, hE⟩, hY, hM⟩, hO, -⟩ := id hr
  unfold fL_loan
  exact ok_get' hr rfl (cg_loan hR hC x) (fun M1 e1 e3 => ⟨_, by rw [mg_loan (by rw [e1]; exact hC) x, e1, e3]⟩)
theorem op_alleged {M : xM} {n : Nat} (hr : Rel M n) (x : Int) : OKc (fL_alleged 0 x 406 M) (fX12_alleged 400 x) (n + 1) := by
  obtain ⟨hR, hV, ⟨⟨hC, hA, hS, hH, hI, hT, hK, hL, hE⟩, hY, hM⟩, hO, -⟩ := id hr
  unfold fL_alleged
  exact ok_get' hr rfl (cg_alleged hR hC x) (fun M1 e1 e3 => ⟨_, by rw [mg_alleged (by rw [e1]; exact hC) x, e1, e3]⟩)
theorem op_units {M : xM} {n : Nat} (hr : Rel M n) (x y : Int) : OKc (fL_units 0 x y 406 M) (fX12_units 400 x y) (n + 1) := by
  obtain ⟨hR, hV, ⟨⟨hC, hA, hS, hH, hI, hT, hK, hL, hE⟩, hY, hM⟩, hO, -⟩ := id hr
  unfold fL_units
  exact ok_get' hr rfl (cg_units hR hC x y) (fun M1 e1 e3 => ⟨_, by rw [mg_units (by rw [e1]; exact hC) x y, e1, e3]⟩)
theorem op_free {M : xM} {n : Nat} (hr : Rel M n) (x y : Int) : OKc (fL_free 0 x y 406 M) (fX12_free 400 x y) (n + 1) := by
  obtain ⟨hR, hV, ⟨⟨hC, hA, hS, hH, hI, hT, hK, hL, hE⟩, hY, hM⟩, hO, -⟩ := id hr
  unfold fL_free
  exact ok_get' hr rfl (cg_free hR hC x y) (fun M1 e1 e3 => ⟨_, by rw [mg_free (by rw [e1]; exact hC) x y, e1, e3]⟩)
theorem op_entitled {M : xM} {n : Nat} (hr : Rel M n) (x y : Int) : OKc (fL_entitled 0 x y 406 M) (fX12_entitled 400 x y) (n + 1) := by
  obtain ⟨hR, hV, ⟨⟨hC, hA, hS, hH, hI, hT, hK, hL, hE⟩, hY, hM⟩, hO, -⟩ := id hr
  unfold fL_entitled
  exact ok_get' hr rfl (cg_entitled hR hC x y) (fun M1 e1 e3 => ⟨_, by rw [mg_entitled (by rw [e1]; exact hC) x y, e1, e3]⟩)
theorem mg_entitledAnew (x y : Int) (M : xM) : fX12_entitledAnew 400 x y M = fX12_entitled 400 x y M := by
  unfold fX12_entitledAnew
  cases h : fX12_entitled 400 x y M with
  | none => rfl
  | some r => obtain ⟨z | z, M'⟩ := r <;> rfl
theorem op_entitledAnew {M : xM} {n : Nat} (hr : Rel M n) (x y : Int) : OKc (fL_entitledAnew 0 x y 406 M) (fX12_entitledAnew 400 x y) (n + 1) := by
  obtain ⟨hR, hV, ⟨⟨hC, hA, hS, hH, hI, hT, hK, hL, hE⟩, hY, hM⟩, hO, -⟩ := id hr
  unfold fL_entitledAnew
  exact ok_get' hr rfl (cg_entitledAnew hR hV hC hE x y) (fun M1 e1 e3 => ⟨_, by rw [mg_entitledAnew, mg_entitled (by rw [e1]; exact hC) x y, e1, e3]⟩)
theorem op_isSound {M : xM} {n : Nat} (hr : Rel M n) (x : Int) : OKb (fL_isSound 0 x 406 M) (fX12_isSound 400 x) (n + 1) := by
  obtain ⟨hR, hV, ⟨⟨hC, hA, hS, hH, hI, hT, hK, hL, hE⟩, hY, hM⟩, hO, -⟩ := id hr
  unfold fL_isSound fL_isSound_15
  exact okb_get hr rfl (cg_isSound hR hC hS hH x) (fun M1 e1 e3 => ⟨_, by rw [mg_isSound (by rw [e1]; exact hC) x, e1, e3]⟩)
theorem bi_1 {z : Int} (h : B01 z) : z = bi (decide (z = 1)) := by rcases h with h | h <;> rw [h] <;> rfl
theorem op_isPaid {M : xM} {n : Nat} (hr : Rel M n) (x : Int) : OKb (fL_isPaid 0 x 406 M) (fX12_isPaid 400 x) (n + 1) := by
  obtain ⟨hR, hV, ⟨⟨hC, hA, hS, hH, hI, hT, hK, hL, hE⟩, hY, hM⟩, hO, -⟩ := id hr
  unfold fL_isPaid fL_isPaid_15
  have hn := hC.2.2.2.2.2.2.1
  have hb : inb x (M 401 1546) = true → M 401 (1130 + x.toNat) = bi (decide (M 401 (1130 + x.toNat) = 1)) := fun q => by
    obtain ⟨a, rfl, ha⟩ := inb_t q
    exact bi_1 (hE a (by omega)).2.2.2.1
  refine okb_get hr (b := inb x (M 401 1546)) (v := decide (M 401 (1130 + x.toNat) = 1)) rfl ?_ (fun M1 e1 e3 => ⟨_, by
    rw [mg_isPaid (by rw [e1]; exact hC) (by rw [e1]; exact hE) x, e1, e3]
    cases q : inb x (M 401 1546)
    · rfl
    · rw [if_t, if_t, ← hb q]⟩)
  rw [cg_isPaid hR hC x]
  cases q : inb x (M 401 1546)
  · rfl
  · rw [if_t, if_t, ← hb q]
theorem op_today {M : xM} {n : Nat} (hr : Rel M n) : OK0 (fX11_today 0 M) (fX12_today 400) (n + 1) := by
  obtain ⟨hR, hV, ⟨⟨hC, hA, hS, hH, hI, hT, hK, hL, hE⟩, hY, hM⟩, hO, -⟩ := id hr
  have hn := hC.2.2.2.2.2.2.2
  refine ok0_ret hr hr.stp (v := M 401 1547) (by unfold fX11_today; rw [xr_0_1, hR.day]; rfl) (fun M2 e1 e3 _ _ => ⟨M2, ?_, gb.refl M2⟩)
  unfold fX12_today
  rw [m_holds', xb_l, xr_400_0, st_401, e1, e3, w32_i (by omega) (by omega)]; rfl
theorem op_loans {M : xM} {n : Nat} (hr : Rel M n) : OK0 (fX11_loans 0 M) (fX12_loans 400) (n + 1) := by
  obtain ⟨hR, hV, ⟨⟨hC, hA, hS, hH, hI, hT, hK, hL, hE⟩, hY, hM⟩, hO, -⟩ := id hr
  have hn := hC.2.2.2.2.2.1
  refine ok0_ret hr hr.stp (v := M 401 1545) (by unfold fX11_loans; rw [xr_0_1, hR.nL]; rfl) (fun M2 e1 e3 _ _ => ⟨M2, ?_, gb.refl M2⟩)
  unfold fX12_loans
  rw [m_holds', xb_l, xr_400_0, st_401, e1, e3, w32_i (by omega) (by omega)]; rfl
