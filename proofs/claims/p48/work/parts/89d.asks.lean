/-! asks -/
theorem free_v {w : Nat → Int} (hH : IH w) {a s : Nat} (ha : a < 10) (hs : s < 4) : 0 ≤ sFree w a s ∧ sFree w a s ≤ w (100 + 4 * a + s) := by
  have l := hH.le ha hs
  have k := KQ_le w
  unfold sFree
  rw [w64_i (by omega) (by omega)]; omega
theorem xand_1 (p : Bool) : xand (bi p) 1 = bi p := by cases p <;> decide
/-- what the law takes for sound -/
def sds (w : Nat → Int) (a : Nat) : Bool := decide (0 ≤ w64 (w64 (w (30 + a) - w (40 + a)) + sLim w a))
theorem sds_if (w : Nat → Int) (a : Nat) {α : Type} (F : Int → α) : (if w64 (w64 (w (30 + a) - w (40 + a)) + sLim w a) < 0 then F 0 else F 1) = F (bi (sds w a)) := by
  unfold sds
  by_cases z : w64 (w64 (w (30 + a) - w (40 + a)) + sLim w a) < 0
  · rw [if_pos z, decide_eq_false (by omega)]; rfl
  · rw [if_neg z, decide_eq_true (by omega)]; rfl
theorem as_57 {M : xM} {w T : Nat → Int} {n : Nat} (h : LI M w T n) (hn5 : n ≤ 500) (rc : Int → Int → xM → xO) (x : Int) {a : Nat} (ha : a < 6) : ∀ (k s m : Nat), s + k = 2 → k < m → fL_asks_57 rc 0 400 x (a : Int) m (bi (sds w a)) (s : Int) M = rc x ((a + 1 : Nat) : Int) M
  | _, _, 0, _, hm => absurd hm (Nat.not_lt_zero _)
  | 0, s, m + 1, hk, _ => by
    obtain ⟨hx, hc, hw⟩ := id h
    obtain ⟨hC, hA, hS, hH, -⟩ := hx.2.2.1.1
    obtain ⟨u, u1, u2, u3⟩ := kop_used hx hn5 (a := a) (by rw [hw.1]; omega)
    have hb := hC.1
    have hi : inb (a : Int) (w 1540) = true := inb_i (by rw [hw.1]; omega)
    have es : sSnd w a = sds w a := by
      unfold sSnd sds
      rw [hH.all hS (a := a) (by omega) _ 0 (by rw [hw.2.1]; decide), Bool.and_true]; rfl
    have e162 : fL_asks_162 rc 0 400 x (a : Int) M = rc x ((a + 1 : Nat) : Int) M := by
      unfold fL_asks_162 fL_asks_191
      rw [cg_cash hx.1 hC, hi, if_t, xb_l, cg_pledged hx.1 hC, hi, if_t, xb_l, Int.toNat_natCast, w32_s (by omega)]
      by_cases z : w (30 + a) < w (40 + a)
      · rw [if_pos z]
      · have hm := hx.2.2.1.2.2 a (by omega)
        rw [if_neg z, u1, xb_l, Int.toNat_natCast, UInt64.ofNat_toNat, u3 (by unfold sFC; rw [w64_i (by omega) (by omega)]; omega), if_pos rfl]
    rw [fL_asks_57, if_pos (by rw [hc.2.1]; omega), cg_isSound hx.1 hC hS hH, hi, if_t, xb_l, Int.toNat_natCast, es, if_pos rfl, u1, xb_l, Int.toNat_natCast, UInt64.ofNat_toNat, if_pos u2, e162]
  | k + 1, s, m + 1, hk, hm => by
    obtain ⟨hx, hc, hw⟩ := id h
    obtain ⟨hC, hA, hS, hH, -⟩ := hx.2.2.1.1
    have hi : inb (a : Int) (w 1540) = true := inb_i (by rw [hw.1]; omega)
    have hj : inb (s : Int) (w 1541) = true := inb_i (by rw [hw.2.1]; omega)
    have fv := free_v hH (a := a) (s := s) (by omega) (by omega)
    rw [fL_asks_57, if_neg (by rw [hc.2.1]; omega), cg_free hx.1 hC, hi, hj, Bool.and_self, if_t, xb_l, Int.toNat_natCast, Int.toNat_natCast, if_neg (by omega)]
    unfold fL_asks_85
    rw [cg_free hx.1 hC, hi, hj, Bool.and_self, if_t, xb_l, cg_units hx.1 hC, hi, hj, Bool.and_self, if_t, xb_l, Int.toNat_natCast, Int.toNat_natCast, if_neg (by omega), cg_units hx.1 hC, hi, hj, Bool.and_self, if_t, xb_l, Int.toNat_natCast, Int.toNat_natCast, if_pos (by omega), xand_1, w32_s (by omega)]
    exact as_57 h hn5 rc x ha k (s + 1) m (by omega) (by omega)
theorem as_214 {M : xM} {w T : Nat → Int} {n : Nat} (h : LI M w T n) (rc : Int → xM → xO) (x : Int) {s : Nat} (hs : s < 2) : ∀ (k a m : Nat), a + k = 6 → k < m → fL_asks_214 rc 0 400 x (s : Int) m (w64 (sm (fun a => w (100 + 4 * a + s)) a)) (a : Int) M = rc ((s + 1 : Nat) : Int) M
  | _, _, 0, _, hm => absurd hm (Nat.not_lt_zero _)
  | 0, a, m + 1, hk, _ => by
    obtain ⟨hx, hc, hw⟩ := id h
    obtain ⟨hC, hA, hS, hH, -⟩ := hx.2.2.1.1
    have hj : inb (s : Int) (w 1541) = true := inb_i (by rw [hw.2.1]; omega)
    have e := hH.2 s (by omega)
    have k := KQ_le w
    have e6 : sm (fun a => w (100 + 4 * a + s)) 10 = sm (fun a => w (100 + 4 * a + s)) 6 := by
      have z : ∀ a : Nat, 6 ≤ a → a < 10 → w (100 + 4 * a + s) = 0 := fun a h1 h2 => (hH.1 a s h2 (by omega)).2.2.1 (by rw [hw.1]; omega)
      have z6 := z 6 (by omega) (by omega)
      have z7 := z 7 (by omega) (by omega)
      have z8 := z 8 (by omega) (by omega)
      have z9 := z 9 (by omega) (by omega)
      show sm (fun a => w (100 + 4 * a + s)) 6 + w (100 + 4 * 6 + s) + w (100 + 4 * 7 + s) + w (100 + 4 * 8 + s) + w (100 + 4 * 9 + s) = _
      rw [z6, z7, z8, z9]; omega
    have nn := sm_nn (f := fun a => w (100 + 4 * a + s)) 10 (fun a ha => by have := hH.le (a := a) (s := s) ha (by omega); show 0 ≤ w _; omega)
    rw [fL_asks_214, if_pos (by rw [hc.1]; omega), cg_out hx.1 hC, hj, if_t, xb_l, Int.toNat_natCast, show a = 6 by omega, ← e6, w64_i (by omega) (by omega), if_pos e.1, w32_s (by omega)]
  | k + 1, a, m + 1, hk, hm => by
    obtain ⟨hx, hc, hw⟩ := id h
    have hC := hx.2.2.1.1.1
    have hj : inb (s : Int) (w 1541) = true := inb_i (by rw [hw.2.1]; omega)
    rw [fL_asks_214, if_neg (by rw [hc.1]; omega), cg_units hx.1 hC, inb_i (by rw [hw.1]; omega), hj, Bool.and_self, if_t, xb_l, xlet_b, w64_add, Int.toNat_natCast, Int.toNat_natCast, w32_s (by omega)]
    exact as_214 h rc x hs k (a + 1) m (by omega) (by omega)
theorem causers_o {M : xM} {w T : Nat → Int} {n : Nat} (h : Cx M w T n) : fL_causers 0 (w 1543) M = some (.inl (-2), M) := by
  unfold fL_causers fX11_causer
  rw [c_needT h.1, inb_o (Or.inr (Int.le_refl _))]; rfl
theorem as_264 {M : xM} {w T : Nat → Int} {n : Nat} (h : LI M w T n) (hn5 : n ≤ 500) {nI : Nat} (hI : w 1542 = (nI : Int)) : ∀ (k i m : Nat), i + k = nI → k < m → ∃ M1, fL_asks_264 0 400 0 m (i : Int) M = some (.inl 1, M1) ∧ LI M1 w T n ∧ FRc M M1
  | _, _, 0, _, hm => absurd hm (Nat.not_lt_zero _)
  | 0, i, m + 1, hk, _ => by
    obtain ⟨hx, hc, hw⟩ := id h
    obtain ⟨M1, a1, a2, a3⟩ := kop_best hx hn5
    obtain ⟨M2, b1, b2, b3⟩ := kop_bestByAll a2 hn5
    have f := a3.trans b3
    have h2 := h.fr b2 (f 400 (by omega))
    refine ⟨M2, ?_, h2, f⟩
    rw [fL_asks_264, if_pos (by rw [hc.2.2.1]; omega), if_pos rfl, a1, xb_l, b1, xb_l, if_pos rfl, h2.2.1.2.2.2.1, causers_o b2, xbc_l, if_pos rfl]; rfl
  | k + 1, i, m + 1, hk, hm => by
    obtain ⟨hx, hc, hw⟩ := id h
    obtain ⟨hC, hA, hS, hH, hII, -⟩ := hx.2.2.1.1
    have c2 := hC.2.2.1
    have hi : inb (i : Int) (w 1542) = true := inb_i (by omega)
    have kI := (hII i (by omega)).1 (by omega)
    have k1 := kI.2.2.2.2.2.2.2.2.2.1
    have k2 := kI.2.2.2.2.2.2.2.2.2.2.1
    have k3 := kI.2.2.2.2.2.2.2.2.2.2.2.1
    have hD := hw.2.2.2.2.2.1 i (by omega) (by omega)
    have hN := hw.2.2.2.2.2.2.1 i (by omega) (by omega)
    -- with a trade it is not open
    have n0 : 0 ≤ w (650 + i) → w (570 + i) ≠ 0 := fun z => by
      obtain ⟨t, ht⟩ := ex_nat z
      have hd := hD z
      rw [ht, Int.toNat_natCast] at hd
      have hT := hx.2.2.1.1.2.2.2.2.2.1
      have c3 := hC.2.2.2.1
      have kt := (hT t (by omega)).1 (by omega)
      have k4 := kt.2.2.2.2.2.2.2.2.2.1
      have k5 := kt.2.2.2.2.2.2.2.2.2.2.1
      have k6 := kt.2.2.2.2.2.2.2.2.2.2.2.1
      rcases hd with hd | hd
      · rw [hd] at k5; omega
      · rw [hd] at k6; omega
    rw [fL_asks_264, if_neg (by rw [hc.2.2.1]; omega), cg_tradeOf hx.1 hC, hi, if_t, xb_l, cg_status hx.1 hC, hi, if_t, xb_l, Int.toNat_natCast, if_neg (by omega), hc.2.2.2.1, if_neg (by omega)]
    have e : fL_asks_313 (fL_asks_264 0 400 0 m) 0 400 0 (i : Int) (w (650 + i)) (w (570 + i)) M = fL_asks_264 0 400 0 m ((i + 1 : Nat) : Int) M := by
      unfold fL_asks_313 fL_asks_324 fL_asks_336
      rw [w32_s (by omega)]
      by_cases z2 : w (570 + i) = 2
      · have hp : 0 ≤ w (650 + i) := by
          by_cases y : w (650 + i) < 0
          · exact absurd z2 (hN (by omega))
          · omega
        rw [if_pos z2, if_neg (by omega), if_neg (by omega)]
      · rw [if_neg z2]
        by_cases z0 : w (570 + i) = 0
        · rw [if_pos z0, if_pos (by
            by_cases y : w (650 + i) < 0
            · exact y
            · exact absurd z0 (n0 (by omega)))]
        · rw [if_neg z0]
    have ih := as_264 h hn5 hI k (i + 1) m (by omega) (by omega)
    by_cases z1 : w (570 + i) = 1
    · rw [if_pos z1, if_neg (by have := (k3 z1).1; omega), e]; exact ih
    · rw [if_neg z1, e]; exact ih
theorem as_200 {M : xM} {w T : Nat → Int} {n : Nat} (h : LI M w T n) (hn5 : n ≤ 500) : ∀ (k s m : Nat), s + k = 2 → k < m → ∃ M1, fL_asks_200 0 400 0 m (s : Int) M = some (.inl 1, M1) ∧ LI M1 w T n ∧ FRc M M1
  | _, _, 0, _, hm => absurd hm (Nat.not_lt_zero _)
  | 0, s, m + 1, hk, _ => by
    obtain ⟨nT, nI, hT, h14, hI, h28⟩ := h.cnt
    obtain ⟨M1, a1, a2⟩ := as_264 h hn5 hI nI 0 29 (by omega) (by omega)
    exact ⟨M1, by rw [fL_asks_200, if_pos (by rw [h.2.1.2.1]; omega)]; exact a1, a2⟩
  | k + 1, s, m + 1, hk, hm => by
    obtain ⟨M1, a1, a2⟩ := as_200 h hn5 k (s + 1) m (by omega) (by omega)
    refine ⟨M1, ?_, a2⟩
    rw [fL_asks_200, if_neg (by rw [h.2.1.2.1]; omega)]
    have e := as_214 h (fL_asks_200 0 400 0 m) 0 (s := s) (by omega) 6 0 7 (by omega) (by omega)
    rw [show w64 (sm (fun a => w (100 + 4 * a + s)) 0) = 0 from (by decide : w64 0 = 0)] at e
    exact e.trans a1
theorem as_5 {M : xM} {w T : Nat → Int} {n : Nat} (h : LI M w T n) (hn5 : n ≤ 500) : ∀ (k a m : Nat), a + k = 6 → k < m → ∃ M1, fL_asks_5 0 400 m (w64 (sm (fun a => w (80 + a)) a)) (a : Int) M = some (.inl 1, M1) ∧ LI M1 w T n ∧ FRc M M1
  | _, _, 0, _, hm => absurd hm (Nat.not_lt_zero _)
  | 0, a, m + 1, hk, _ => by
    obtain ⟨M1, a1, a2⟩ := as_200 h hn5 2 0 3 (by omega) (by omega)
    refine ⟨M1, ?_, a2⟩
    rw [fL_asks_5, if_pos (by rw [h.2.1.1]; omega), show a = 6 by omega, h.2.2.2.2.2.2.2.2.2]; exact a1
  | k + 1, a, m + 1, hk, hm => by
    obtain ⟨hx, hc, hw⟩ := id h
    obtain ⟨hC, hA, hS, hH, -⟩ := hx.2.2.1.1
    have hi : inb (a : Int) (w 1540) = true := inb_i (by rw [hw.1]; omega)
    obtain ⟨M1, a1, a2⟩ := as_5 h hn5 k (a + 1) m (by omega) (by omega)
    refine ⟨M1, ?_, a2⟩
    rw [fL_asks_5, if_neg (by rw [hc.1]; omega), cg_ledger hx.1 hC, hi, if_t, xb_l, xlet_b, cg_cash hx.1 hC, hi, if_t, xb_l, cg_pledged hx.1 hC, hi, if_t, xb_l, cg_limit hx.1 hC hS hH, hi, if_t, xb_l, Int.toNat_natCast, w64_add (sm (fun a => w (80 + a)) a)]
    refine (sds_if w a (fun z => fL_asks_52 (fL_asks_5 0 400 m) 0 400 (w64 (sm (fun a => w (80 + a)) a + w (80 + a))) (a : Int) z M)).trans ?_
    show fL_asks_52 _ _ _ _ _ _ _ = _
    unfold fL_asks_52
    exact (as_57 h hn5 (fL_asks_5 0 400 m) _ (a := a) (by omega) 2 0 3 (by omega) (by omega)).trans a1
theorem asks_ok {M : xM} {w T : Nat → Int} {n : Nat} (h : LI M w T n) (hn5 : n ≤ 500) : ∃ M1, fL_asks 0 400 M = some (.inl 1, M1) ∧ LI M1 w T n ∧ FRc M M1 := as_5 h hn5 6 0 7 (by omega) (by omega)
