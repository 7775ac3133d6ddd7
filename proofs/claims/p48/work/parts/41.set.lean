def rg (x lo hi : Int) : Bool := decide (lo ≤ x) && decide (x ≤ hi)
theorem rg_t {x lo hi : Int} (h : rg x lo hi = true) : lo ≤ x ∧ x ≤ hi := by simpa [rg] using h
theorem m_rg (x lo hi : Int) (M : xM) : fX12_in 400 x lo hi M = some (.inl (bi (rg x lo hi)), M) := m_in x lo hi M
theorem c_arg (b : Bool) (M : xM) : fX11_needArgument (bi b) M = if b then some (.inl 0, M) else some (.inr 1, M) := by cases b <;> rfl
theorem c_sta (b : Bool) (M : xM) : fX11_needState (bi b) M = if b then some (.inl 0, M) else some (.inr 2, M) := by cases b <;> rfl
theorem c_rng (x lo hi : Int) (M : xM) : fX11_needRange x lo hi M = if rg x lo hi then some (.inl 0, M) else some (.inr 1, M) := by
  unfold fX11_needRange fX11_needRange_14 fX11_needRange_15 rg
  by_cases h1 : x < lo
  · rw [if_pos h1, decide_eq_false (show ¬ lo ≤ x by omega)]; rfl
  · rw [if_neg h1, decide_eq_true (show lo ≤ x by omega)]
    by_cases h2 : hi < x
    · rw [if_pos h2, decide_eq_false (show ¬ x ≤ hi by omega)]; rfl
    · rw [if_neg h2, decide_eq_true (show x ≤ hi by omega)]; rfl
theorem MV.up {M : xM} {w : Nat → Int} (h : MV M w) {c k j : Nat} {v u : Int} (h1 : ¬ (c = 3 ∧ k = 17)) (h2 : ∀ a : Nat, a < 10 → c ≠ 15 + 4 * a) (h3 : ∀ e : Nat, e < 10 → ¬ (c = 155 + 4 * e ∧ k = 9)) (h4 : ¬ (100 ≤ j ∧ j < 140)) (h5 : ¬ (1060 ≤ j ∧ j < 1070)) (h6 : ¬ (1120 ≤ j ∧ j < 1130)) (h7 : ¬ (1140 ≤ j ∧ j < 1240)) : MV (xup M c k v) (ups w j u) :=
  h.fr (xup_ne (fun z => h1 ⟨z.1.symm, z.2.symm⟩)) (fun a ha => xup_row (fun z => h2 a ha z.symm)) (fun e he => xup_ne (fun z => h3 e he ⟨z.1.symm, z.2.symm⟩)) (fun i _ _ => ups_ne (by omega)) (fun e _ => ups_ne (by omega)) (fun e _ _ => ups_ne (by omega)) (fun i _ _ => ups_ne (by omega))
theorem tol {M : xM} {T : Nat → Int} (h : ∀ a : Nat, a < 10 → M 2 a = T a) {c k : Nat} {v : Int} (hc : c ≠ 2) : ∀ a : Nat, a < 10 → xup M c k v 2 a = T a := fun a ha => by rw [xup_c (Ne.symm hc)]; exact h a ha
theorem frx {M M1 : xM} (h : ∀ c : Nat, (c = 0 ∨ (199 ≤ c ∧ c < 395) ∨ 400 ≤ c) → M1 c = M c) {a k : Nat} {v : Int} (ha : 0 < a ∧ (a < 199 ∨ (395 ≤ a ∧ a < 400))) : ∀ c : Nat, (c = 0 ∨ (199 ≤ c ∧ c < 395) ∨ 400 ≤ c) → xup M1 a k v c = M c := fun c hc => by rw [xup_row (by omega)]; exact h c hc
theorem fr0 (M : xM) : ∀ c : Nat, (c = 0 ∨ (199 ≤ c ∧ c < 395) ∨ 400 ≤ c) → M c = M c := fun _ _ => rfl
theorem up6 {M : xM} {v : Int} {c : Nat} (h : c ≠ 406) : xup M 406 0 v c = M c := xup_row h
-- setPrice
theorem cs_setPrice {M : xM} {w : Nat → Int} (hR : R M w) (hC : IC w) (x p : Int) : fX11_setPrice 0 x p M = if inb x (w 1541) then (if rg p 1 1000 then some (.inl (w (184 + x.toNat)), xup M (56 + x.toNat) 1 p) else some (.inr 1, M)) else some (.inr 0, M) := by
  unfold fX11_setPrice
  rw [c_needS hR]
  have hb := hC.2.1
  cases q : inb x (w 1541)
  · rfl
  · obtain ⟨s, rfl, hs⟩ := inb_t q
    rw [if_t, if_t, xb_l, c_rng]
    cases q2 : rg p 1 1000
    · rfl
    · rw [if_t, if_t, xb_l, xr_0_1, c_sec (by omega), xb_l, Int.toNat_natCast, Int.toNat_natCast, hR.price (by omega)]; rfl
theorem ms_setPrice {M : xM} (hC : IC (M 401)) (hS : IS (M 401)) (x p : Int) : fX12_setPrice 400 x p M = if inb x (M 401 1541) then (if rg p 1 1000 then some (.inl (M 401 (184 + x.toNat)), st M (ups (M 401) (184 + x.toNat) p) (M 403) 0) else some (.inl (-1), st M (M 401) (M 403) 2)) else some (.inl (-1), st M (M 401) (M 403) 1) := by
  unfold fX12_setPrice fX12_setPrice_31
  rw [m_isS x M hC, xb_l, if_b0]
  have hb := hC.2.1
  cases q : inb x (M 401 1541)
  · rw [if_f, if_f, m_holds', xb_l]; rfl
  · obtain ⟨s, rfl, hs⟩ := inb_t q
    rw [if_t, if_t, m_rg, xb_l, if_b0]
    cases q2 : rg p 1 1000
    · rw [if_f, if_f, m_holds', xb_l]; rfl
    · have h1 := (hS.1 s (by omega)).2.1
      rw [if_t, if_t, m_holds', xb_l, if_b0, if_d0, xr_400_0, st_401]
      simp (disch := omega) only [w32_i, xix_t, tn_add, Int.toNat_natCast, Int.reduceToNat, xlet_b, xput_b, st_w]; rfl
