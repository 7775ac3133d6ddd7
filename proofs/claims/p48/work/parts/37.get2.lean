theorem w64_ex (x : Int) : ∃ k : Int, w64 x = x + 18446744073709551616 * k := by
  have h : ((18446744073709551616 : Nat) : Int) ∣ Int.bmod x 18446744073709551616 - x := Int.dvd_bmod_sub_self
  obtain ⟨k, hk⟩ := h
  refine ⟨k, ?_⟩
  rw [w64_b]
  have e : ((18446744073709551616 : Nat) : Int) = 18446744073709551616 := rfl
  rw [e] at hk; omega
theorem w64_add (x y : Int) : w64 (w64 x + y) = w64 (x + y) := by
  obtain ⟨k1, h1⟩ := w64_ex x
  obtain ⟨k2, h2⟩ := w64_ex (w64 x + y)
  obtain ⟨k3, h3⟩ := w64_ex (x + y)
  have r2 := w64_r (w64 x + y)
  have r3 := w64_r (x + y)
  omega
theorem w64_add' (x y : Int) : w64 (x + w64 y) = w64 (x + y) := by
  rw [Int.add_comm, w64_add, Int.add_comm]
theorem w64_sub (x y : Int) : w64 (w64 x - y) = w64 (x - y) := by
  obtain ⟨k1, h1⟩ := w64_ex x
  obtain ⟨k2, h2⟩ := w64_ex (w64 x - y)
  obtain ⟨k3, h3⟩ := w64_ex (x - y)
  have r2 := w64_r (w64 x - y)
  have r3 := w64_r (x - y)
  omega
theorem if_d0 {α : Type} {p q : α} : (if decide ((0 : Int) < 0) = true then p else q) = q := rfl
theorem IH.all {w : Nat → Int} (hS : IS w) (hH : IH w) {a : Nat} (ha : a < 10) : ∀ (k i : Nat), i + k ≤ 4 → sAll w a k i = true
  | 0, _, _ => rfl
  | k + 1, i, hi => by
    have h1 := hH.le ha (s := i) (by omega)
    have h2 := hb_free (Inv0.hb hS hH ha) (s := i) (by omega)
    simp only [sAll, Bool.and_eq_true, decide_eq_true_eq]
    exact ⟨by omega, IH.all hS hH ha k (i + 1) (by omega)⟩
theorem cg_limit {M : xM} {w : Nat → Int} (hR : R M w) (hC : IC w) (hS : IS w) (hH : IH w) (x : Int) : fX11_limit 0 x M = if inb x (w 1540) then some (.inl (sLim w x.toNat), M) else some (.inr 0, M) := by
  unfold fX11_limit
  rw [c_needA hR]
  have hb := hC.1
  have hn := hC.2.1
  cases q : inb x (w 1540)
  · rfl
  · obtain ⟨a, rfl, ha⟩ := inb_t q
    rw [if_t, if_t, xb_l, xr_0_1, c_acc (by omega), xb_l, Int.toNat_natCast, Int.toNat_natCast, c_lim hR (by omega) hn.1 hn.2 (Inv0.hb hS hH (by omega)) (hH.all hS (by omega) _ _ (by omega)), xb_l]; rfl
theorem mg_limit {M : xM} (hC : IC (M 401)) (x : Int) : fX12_limit 400 x M = if inb x (M 401 1540) then some (.inl (sLim (M 401) x.toNat), st M (M 401) (M 403) 0) else some (.inl (-1), st M (M 401) (M 403) 1) := by
  unfold fX12_limit fX12_limit_14
  rw [m_isA x M hC, xb_l, if_b0]
  have hb := hC.1
  have hn := hC.2.1
  cases q : inb x (M 401 1540)
  · rw [if_f, if_f, m_holds', xb_l]; rfl
  · obtain ⟨a, rfl, ha⟩ := inb_t q
    rw [if_t, if_t, m_holds', xb_l, if_b0, if_d0, m_lim (M := st M (M 401) (M 403) 0) (by omega) hn.1 hn.2, Int.toNat_natCast]; rfl
theorem cg_isSound {M : xM} {w : Nat → Int} (hR : R M w) (hC : IC w) (hS : IS w) (hH : IH w) (x : Int) : fX11_isSound 0 x M = if inb x (w 1540) then some (.inl (bi (sSnd w x.toNat)), M) else some (.inr 0, M) := by
  unfold fX11_isSound
  rw [c_needA hR]
  have hb := hC.1
  have hn := hC.2.1
  cases q : inb x (w 1540)
  · rfl
  · obtain ⟨a, rfl, ha⟩ := inb_t q
    rw [if_t, if_t, xb_l, xr_0_1, Int.toNat_natCast, c_firm hR (by omega) hn.1 hn.2 (Inv0.hb hS hH (by omega)), xb_l]; rfl
theorem bi_if (b : Bool) (M : xM) : (if bi b = 0 then xret 0 M else xret 1 M) = some (.inl (bi b), M) := by cases b <;> rfl
theorem mg_isSound {M : xM} (hC : IC (M 401)) (x : Int) : fX12_isSound 400 x M = if inb x (M 401 1540) then some (.inl (bi (sSnd (M 401) x.toNat)), st M (M 401) (M 403) 0) else some (.inl 0, st M (M 401) (M 403) 1) := by
  unfold fX12_isSound fX12_isSound_14
  rw [m_isA x M hC, xb_l, if_b0]
  have hb := hC.1
  have hn := hC.2.1
  cases q : inb x (M 401 1540)
  · rw [if_f, if_f, m_holds', xb_l]; rfl
  · obtain ⟨a, rfl, ha⟩ := inb_t q
    rw [if_t, if_t, m_holds', xb_l, if_b0, if_d0, m_snd (M := st M (M 401) (M 403) 0) (by omega) hn.1 hn.2, Int.toNat_natCast, xb_l, bi_if]; rfl
theorem cg_messages {M : xM} {w T : Nat → Int} (hR : R M w) (hC : IC w) (hT : ∀ a : Nat, a < 10 → M 2 a = T a) (x : Int) : fX11_messages 0 x M = if inb x (w 1540) then some (.inl (T x.toNat), M) else some (.inr 0, M) := by
  unfold fX11_messages
  rw [c_needA hR]
  have hb := hC.1
  cases q : inb x (w 1540)
  · rfl
  · obtain ⟨a, rfl, ha⟩ := inb_t q
    rw [if_t, if_t, xb_l, xr_0_0]
    unfold fX8_toldTo
    rw [if_neg (by omega), if_neg (by omega), xix_t (by omega) (by omega), xr_1_0, Int.toNat_natCast, hT a (by omega)]; rfl
theorem mg_messages {M : xM} (hC : IC (M 401)) (x : Int) : fX12_messages 400 x M = if inb x (M 401 1540) then some (.inl (M 403 x.toNat), st M (M 401) (M 403) 0) else some (.inl (-1), st M (M 401) (M 403) 1) := by
  unfold fX12_messages fX12_messages_14
  rw [m_isA x M hC, xb_l, if_b0]
  have hb := hC.1
  cases q : inb x (M 401 1540)
  · rw [if_f, if_f, m_holds', xb_l]; rfl
  · obtain ⟨a, rfl, ha⟩ := inb_t q
    rw [if_t, if_t, m_holds', xb_l, if_b0, xix_t (by omega) (by omega), xr_400_3, st_403, Int.toNat_natCast]; rfl
theorem cg_isPaid {M : xM} {w : Nat → Int} (hR : R M w) (hC : IC w) (x : Int) : fX11_isPaid 0 x M = if inb x (w 1546) then some (.inl (w (1130 + x.toNat)), M) else some (.inr 0, M) := by
  unfold fX11_isPaid
  rw [c_needE hR]
  have hb := hC.2.2.2.2.2.2.1
  cases q : inb x (w 1546)
  · rfl
  · obtain ⟨a, rfl, ha⟩ := inb_t q
    rw [if_t, if_t, xb_l, xr_0_1, c_evt (by omega), xb_l, Int.toNat_natCast, Int.toNat_natCast, hR.edon (by omega)]; rfl
theorem mg_isPaid {M : xM} (hC : IC (M 401)) (hE : IE (M 401)) (x : Int) : fX12_isPaid 400 x M = if inb x (M 401 1546) then some (.inl (M 401 (1130 + x.toNat)), st M (M 401) (M 403) 0) else some (.inl 0, st M (M 401) (M 403) 1) := by
  unfold fX12_isPaid fX12_isPaid_14
  rw [m_isE x M hC, xb_l, if_b0]
  have hb := hC.2.2.2.2.2.2.1
  cases q : inb x (M 401 1546)
  · rw [if_f, if_f, m_holds', xb_l]; rfl
  · obtain ⟨a, rfl, ha⟩ := inb_t q
    have h1 := (hE a (by omega)).2.2.2.1
    rw [if_t, if_t, m_holds', xb_l, if_b0, xr_400_0, st_401]
    simp (disch := omega) only [w32_i, xix_t, tn_add, Int.toNat_natCast, Int.reduceToNat]
    rcases h1 with h1 | h1 <;> rw [h1] <;> rfl
theorem cg_loan {M : xM} {w : Nat → Int} (hR : R M w) (hC : IC w) (x : Int) : fX11_loan 0 x M = if inb x (w 1545) then some (.inl (w (990 + x.toNat)), M) else some (.inr 0, M) := by
  unfold fX11_loan
  rw [c_needL hR]
  have hb := hC.2.2.2.2.2.1
  cases q : inb x (w 1545)
  · rfl
  · obtain ⟨a, rfl, ha⟩ := inb_t q
    rw [if_t, if_t, xb_l, xr_0_1, c_lon (by omega), xb_l, Int.toNat_natCast, Int.toNat_natCast]
    rcases hR.2.2.1 a (by omega) ha with ⟨h1, h2, -⟩ | ⟨h1, h2⟩
    · rw [h1, if_pos rfl, h2]; rfl
    · rw [h1, if_neg (by decide), h2]; rfl
theorem mg_loan {M : xM} (hC : IC (M 401)) (x : Int) : fX12_loan 400 x M = if inb x (M 401 1545) then some (.inl (M 401 (990 + x.toNat)), st M (M 401) (M 403) 0) else some (.inl (-1), st M (M 401) (M 403) 1) := by
  unfold fX12_loan fX12_loan_14
  rw [m_isL x M hC, xb_l, if_b0]
  have hb := hC.2.2.2.2.2.1
  cases q : inb x (M 401 1545)
  · rw [if_f, if_f, m_holds', xb_l]; rfl
  · obtain ⟨a, rfl, ha⟩ := inb_t q
    rw [if_t, if_t, m_holds', xb_l, if_b0, xr_400_0, st_401]
    simp (disch := omega) only [w32_i, xix_t, tn_add, Int.toNat_natCast, Int.reduceToNat]; rfl
theorem cg_units {M : xM} {w : Nat → Int} (hR : R M w) (hC : IC w) (x y : Int) : fX11_units 0 x y M = if inb x (w 1540) && inb y (w 1541) then some (.inl (w (100 + 4 * x.toNat + y.toNat)), M) else some (.inr 0, M) := by
  unfold fX11_units
  rw [c_needA hR]
  have hb := hC.1
  have hn := hC.2.1
  cases q : inb x (w 1540)
  · rfl
  · rw [if_t, xb_l, c_needS hR]
    cases q2 : inb y (w 1541)
    · rfl
    · obtain ⟨a, rfl, ha⟩ := inb_t q
      obtain ⟨s, rfl, hs⟩ := inb_t q2
      rw [if_t, xb_l, xr_0_1, c_acc (by omega), xb_l, Int.toNat_natCast, c_held hR (by omega) (by omega), Int.toNat_natCast, Int.toNat_natCast]; rfl
theorem cg_free {M : xM} {w : Nat → Int} (hR : R M w) (hC : IC w) (x y : Int) : fX11_free 0 x y M = if inb x (w 1540) && inb y (w 1541) then some (.inl (sFree w x.toNat y.toNat), M) else some (.inr 0, M) := by
  unfold fX11_free
  rw [c_needA hR]
  have hb := hC.1
  have hn := hC.2.1
  cases q : inb x (w 1540)
  · rfl
  · rw [if_t, xb_l, c_needS hR]
    cases q2 : inb y (w 1541)
    · rfl
    · obtain ⟨a, rfl, ha⟩ := inb_t q
      obtain ⟨s, rfl, hs⟩ := inb_t q2
      rw [if_t, xb_l, xr_0_1, c_acc (by omega), xb_l, Int.toNat_natCast, c_free hR (by omega) (by omega), Int.toNat_natCast, Int.toNat_natCast]; rfl
theorem m_pair {M : xM} (hC : IC (M 401)) (x y : Int) : fX12_isPair 400 x y M = some (.inl (bi (inb x (M 401 1540) && inb y (M 401 1541))), M) := by
  unfold fX12_isPair
  rw [m_isA x M hC, xb_l, if_b0]
  cases inb x (M 401 1540)
  · rfl
  · rw [if_t, m_isS y M hC, xb_l, if_b0]
    cases inb y (M 401 1541) <;> rfl
theorem and_tt {p q : Bool} (h : (p && q) = true) : p = true ∧ q = true := by cases p <;> cases q <;> first | exact ⟨rfl, rfl⟩ | cases h
theorem mg_units {M : xM} (hC : IC (M 401)) (x y : Int) : fX12_units 400 x y M = if inb x (M 401 1540) && inb y (M 401 1541) then some (.inl (M 401 (100 + 4 * x.toNat + y.toNat)), st M (M 401) (M 403) 0) else some (.inl (-1), st M (M 401) (M 403) 1) := by
  unfold fX12_units fX12_units_15
  rw [m_pair hC, xb_l, if_b0]
  have hb := hC.1
  have hn := hC.2.1
  cases q : inb x (M 401 1540) && inb y (M 401 1541)
  · rw [if_f, if_f, m_holds', xb_l]; rfl
  · obtain ⟨q1, q2⟩ := and_tt q
    obtain ⟨a, rfl, ha⟩ := inb_t q1
    obtain ⟨s, rfl, hs⟩ := inb_t q2
    rw [if_t, if_t, m_holds', xb_l, if_b0, xr_400_0, st_401]
    simp (disch := omega) only [w32_i, xix_t, tn_add, tn_4, Int.toNat_natCast, Int.reduceToNat]; rfl
theorem mg_free {M : xM} (hC : IC (M 401)) (x y : Int) : fX12_free 400 x y M = if inb x (M 401 1540) && inb y (M 401 1541) then some (.inl (sFree (M 401) x.toNat y.toNat), st M (M 401) (M 403) 0) else some (.inl (-1), st M (M 401) (M 403) 1) := by
  unfold fX12_free fX12_free_15
  rw [m_pair hC, xb_l, if_b0]
  have hb := hC.1
  have hn := hC.2.1
  cases q : inb x (M 401 1540) && inb y (M 401 1541)
  · rw [if_f, if_f, m_holds', xb_l]; rfl
  · obtain ⟨q1, q2⟩ := and_tt q
    obtain ⟨a, rfl, ha⟩ := inb_t q1
    obtain ⟨s, rfl, hs⟩ := inb_t q2
    rw [if_t, if_t, m_holds', xb_l, if_b0, m_free (by omega) (by omega), Int.toNat_natCast, Int.toNat_natCast]; rfl
/-- what entitled answers -/
def sEnt (w : Nat → Int) (e a : Nat) : Int := if w (1120 + e) = 0 then -1 else w (1140 + 10 * e + a)
theorem cg_entitled {M : xM} {w : Nat → Int} (hR : R M w) (hC : IC w) (x y : Int) : fX11_entitled 0 x y M = if inb x (w 1546) && inb y (w 1540) then some (.inl (sEnt w x.toNat y.toNat), M) else some (.inr 0, M) := by
  unfold fX11_entitled
  rw [c_needE hR]
  have hb := hC.1
  have hn := hC.2.2.2.2.2.2.1
  cases q : inb x (w 1546)
  · rfl
  · rw [if_t, xb_l, c_needA hR]
    cases q2 : inb y (w 1540)
    · rfl
    · obtain ⟨e, rfl, he⟩ := inb_t q
      obtain ⟨a, rfl, ha⟩ := inb_t q2
      rw [if_t, xb_l, xr_0_1, c_evt (by omega), xb_l, Int.toNat_natCast, hR.enot (by omega), Int.toNat_natCast, Int.toNat_natCast]
      unfold sEnt
      by_cases z : w (1120 + e) = 0
      · simp only [if_pos z]; rfl
      · simp only [if_neg z]
        unfold fX4_entitledOf
        rw [if_neg (show ¬ (a : Int) < 0 by omega), if_neg (show ¬ 10 ≤ (a : Int) by omega), xix_t (by omega) (by omega), xr_ent e (by omega), Int.toNat_natCast, hR.eent (by omega) (by omega)]; rfl
theorem c_mut_l {M : xM} {a s q : Nat} (ha : a < 10) (hs : s < 4) (hq : q ≤ 10) : ∀ (k i n : Nat) (x : Int), i + k = q + 1 → k < n → fX0_movedUpTo_5 (12 + 4 * a) (q : Int) (s : Int) n (w64 (mvs M a s i)) (i : Int) M = some (.inl (w64 (mvs M a s (q + 1))), M)
  | _, _, 0, _, _, hn => absurd hn (Nat.not_lt_zero _)
  | 0, i, n + 1, x, hi, _ => by
    rw [fX0_movedUpTo_5, if_pos (by omega), show i = q + 1 by omega]; rfl
  | k + 1, i, n + 1, x, hi, hn => by
    rw [fX0_movedUpTo_5, if_neg (by omega), if_neg (by omega), xlet_b]
    rw [w32_i (x := (i : Int) * 4) (by omega) (by omega), w32_i (by omega) (by omega)]
    rw [if_neg (by omega), if_neg (by omega), xix_t (by omega) (by omega), xr_mov a (by omega), xlet_b]
    have e : ((i : Int) * 4 + (s : Int)).toNat = 4 * i + s := by omega
    unfold fX0_movedUpTo_51
    rw [e, w64_add, w32_s (by omega)]
    exact c_mut_l ha hs hq k (i + 1) n x (by omega) (by omega)
theorem cg_entitledAnew {M : xM} {w : Nat → Int} (hR : R M w) (hV : MV M w) (hC : IC w) (hE : IE w) (x y : Int) : fX11_entitledAnew 0 x y M = if inb x (w 1546) && inb y (w 1540) then some (.inl (sEnt w x.toNat y.toNat), M) else some (.inr 0, M) := by
  unfold fX11_entitledAnew
  rw [c_needE hR]
  have hb := hC.1
  have hn := hC.2.2.2.2.2.2.1
  have hs := hC.2.1
  cases q : inb x (w 1546)
  · rfl
  · rw [if_t, xb_l, c_needA hR]
    cases q2 : inb y (w 1540)
    · rfl
    · obtain ⟨e, rfl, he⟩ := inb_t q
      obtain ⟨a, rfl, ha⟩ := inb_t q2
      obtain ⟨e1, -, e3, -⟩ := hE e (by omega)
      have e2 := (e1 he).2.1
      rw [if_t, xb_l, xr_0_1, c_evt (by omega), xb_l, Int.toNat_natCast, hR.enot (by omega), Int.toNat_natCast, Int.toNat_natCast]
      unfold sEnt
      rcases e3 with z | z
      · rw [if_pos z, if_pos z]; rfl
      · obtain ⟨p, p1, p2, p3⟩ := hV.2.2 e (by omega) z
        have hnp := np_le w 10
        obtain ⟨s, hsx⟩ := ex_nat e2.1
        have p4 := p3 a (by omega)
        have hz : ¬ w (1120 + e) = 0 := by omega
        simp only [if_neg hz]
        rw [c_acc (by omega), xb_l, Int.toNat_natCast, p1, hR.esec (by omega), hsx]
        unfold fX0_movedUpTo
        rw [hsx, Int.toNat_natCast] at p4
        have := c_mut_l (M := M) (a := a) (s := s) (q := p) (by omega) (by omega) (by omega) (p + 1) 0 xN 0 (by omega) (by unfold xN; omega)
        rw [show w64 (mvs M a s 0) = 0 from by unfold mvs sm; decide, p4] at this
        rw [show fX0_movedUpTo_5 (12 + 4 * a) (p : Int) (s : Int) xN 0 0 M = _ from this]; rfl
theorem m_ent_x {M : xM} (hC : IC (M 401)) {e a : Nat} (he : e < 10) (ha : a < 10) (T : Nat → Int) (h : Int) (w : Nat → Int) : (xix (w32 (1120 + (e : Int))) 1550 ((if (st M w T h 401 (w32 (1120 + (e : Int))).toNat) = 0 then (xret (-1) (st M w T h)) else xix (w32 ((w32 (1140 + (w32 (10 * (e : Int))))) + (a : Int))) 1550 ((xret (st M w T h 401 (w32 ((w32 (1140 + (w32 (10 * (e : Int))))) + (a : Int))).toNat) (st M w T h)))))) = some (.inl (sEnt w e a), st M w T h) := by
  rw [st_401]
  simp (disch := omega) only [w32_i, xix_t, tn_add, tn_10, Int.toNat_natCast, Int.reduceToNat]
  unfold sEnt
  by_cases z : w (1120 + e) = 0
  · rw [if_pos z, if_pos z]; rfl
  · rw [if_neg z, if_neg z]; rfl
theorem mg_entitled {M : xM} (hC : IC (M 401)) (x y : Int) : fX12_entitled 400 x y M = if inb x (M 401 1546) && inb y (M 401 1540) then some (.inl (sEnt (M 401) x.toNat y.toNat), st M (M 401) (M 403) 0) else some (.inl (-1), st M (M 401) (M 403) 1) := by
  unfold fX12_entitled fX12_entitled_20 fX12_entitled_21 fX12_entitled_32
  have hb := hC.1
  have hn := hC.2.2.2.2.2.2.1
  rw [m_isE x M hC, xb_l, if_b0]
  cases q : inb x (M 401 1546)
  · rw [if_f, if_pos rfl, m_holds', xb_l]; rfl
  · rw [if_t, m_isA y M hC, xb_l, if_b0]
    cases q2 : inb y (M 401 1540)
    · rw [if_f, if_pos rfl, m_holds', xb_l]; rfl
    · obtain ⟨e, rfl, he⟩ := inb_t q
      obtain ⟨a, rfl, ha⟩ := inb_t q2
      rw [if_t, if_neg (by decide), m_holds', xb_l, if_b0, xr_400_0, Int.toNat_natCast, Int.toNat_natCast]
      exact m_ent_x hC (by omega) (by omega) _ _ _
def sAlg (w : Nat → Int) (x : Int) : Nat → Nat → Int → Int
  | 0, _, c => c
  | k + 1, i, c => sAlg w x k (i + 1) (if w (570 + i) = 0 then (if w (250 + i) = x then w32 (c + 1) else c) else c)
theorem cg_alleged_l {M : xM} {w : Nat → Int} (hR : R M w) (h0 : 0 ≤ w 1542) (h1 : w 1542 ≤ 40) (x : Int) : ∀ (k i n : Nat) (c : Int), i + k = (w 1542).toNat → k < n → fX11_alleged_9 0 x n c (i : Int) M = some (.inl (sAlg w x k i c), M)
  | _, _, 0, _, _, hn => absurd hn (Nat.not_lt_zero _)
  | 0, i, n + 1, c, hi, _ => by
    rw [fX11_alleged_9, xr_0_1, if_pos (by rw [hR.nI]; omega)]; rfl
  | k + 1, i, n + 1, c, hi, hn => by
    rw [fX11_alleged_9, xr_0_1, if_neg (by rw [hR.nI]; omega), c_ins (by omega), xb_l, Int.toNat_natCast, hR.ist (by omega), hR.ioth (by omega)]
    unfold fX11_alleged_50
    rw [w32_s (by omega), cg_alleged_l hR h0 h1 x k (i + 1) n _ (by omega) (by omega), cg_alleged_l hR h0 h1 x k (i + 1) n _ (by omega) (by omega)]
    show _ = some (Sum.inl (sAlg w x k (i + 1) _), M)
    by_cases z : w (570 + i) = 0
    · rw [if_pos z, if_pos z]
      by_cases z2 : w (250 + i) = x
      · rw [if_pos z2, if_pos z2]
      · rw [if_neg z2, if_neg z2]
    · rw [if_neg z, if_neg z]
theorem cg_alleged {M : xM} {w : Nat → Int} (hR : R M w) (hC : IC w) (x : Int) : fX11_alleged 0 x M = if inb x (w 1540) then some (.inl (sAlg w x (w 1542).toNat 0 0), M) else some (.inr 0, M) := by
  unfold fX11_alleged
  rw [c_needA hR]
  have hb := hC.2.2.1
  cases q : inb x (w 1540)
  · rfl
  · rw [if_t, if_t, xb_l]
    exact cg_alleged_l hR hb.1 hb.2 x _ 0 xN 0 (by omega) (by unfold xN; omega)
theorem mg_alleged_l {M : xM} (hC : IC (M 401)) (x : Int) : ∀ (k i n : Nat) (c : Int), R32 c → i + k = (M 401 1542).toNat → k < n → fX12_alleged_4 400 x n c (i : Int) M = if inb x (M 401 1540) then some (.inl (sAlg (M 401) x k i c), st M (M 401) (M 403) 0) else some (.inl (-1), st M (M 401) (M 403) 1)
  | _, _, 0, _, _, _, hn => absurd hn (Nat.not_lt_zero _)
  | 0, i, n + 1, c, hc, hi, _ => by
    have hb := hC.2.2.1
    rw [fX12_alleged_4, xr_400_0, if_pos (by omega), m_isA x M hC, xb_l, if_b0]
    unfold fX12_alleged_77
    cases inb x (M 401 1540)
    · rw [if_f, m_holds', xb_l]; rfl
    · rw [if_t, m_holds', xb_l]; rfl
  | k + 1, i, n + 1, c, hc, hi, hn => by
    have hb := hC.2.2.1
    rw [fX12_alleged_4, xr_400_0, if_neg (by omega)]
    unfold fX12_alleged_54 fX12_alleged_55
    simp (disch := omega) only [w32_i, xix_t, tn_add, Int.toNat_natCast, Int.reduceToNat, xlet_b]
    rw [show (i : Int) + 1 = ((i + 1 : Nat) : Int) by omega, mg_alleged_l hC x k (i + 1) n _ (w32_r _) (by omega) (by omega), Int.add_zero, mg_alleged_l hC x k (i + 1) n c hc (by omega) (by omega)]
    rw [show sAlg (M 401) x (k + 1) i c = sAlg (M 401) x k (i + 1) (if M 401 (570 + i) = 0 then (if M 401 (250 + i) = x then w32 (c + 1) else c) else c) from rfl]
    by_cases z : M 401 (570 + i) = 0
    · simp only [if_pos z]
      by_cases z2 : M 401 (250 + i) = x
      · simp only [if_pos z2]
      · simp only [if_neg z2]
    · simp only [if_neg z]
theorem mg_alleged {M : xM} (hC : IC (M 401)) (x : Int) : fX12_alleged 400 x M = if inb x (M 401 1540) then some (.inl (sAlg (M 401) x (M 401 1542).toNat 0 0), st M (M 401) (M 403) 0) else some (.inl (-1), st M (M 401) (M 403) 1) := by
  unfold fX12_alleged
  have hb := hC.2.2.1
  exact mg_alleged_l hC x _ 0 xN 0 (by decide) (by omega) (by unfold xN; omega)
