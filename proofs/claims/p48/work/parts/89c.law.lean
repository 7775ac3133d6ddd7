/-! the law's level: what it keeps -/
def LW (w : Nat → Int) : Prop := w 1540 = 6 ∧ w 1541 = 2 ∧ (∃ k : Nat, w 1542 = 2 * (k : Int) ∧ k ≤ 14) ∧ w 1546 ≤ 5 ∧ w 2 = 1 ∧ ID w ∧ IN w ∧ w64 (sm (fun a => w (80 + a)) 6) = 0
def NC (M : xM) (w : Nat → Int) : Prop := M 400 0 = 6 ∧ M 400 1 = 2 ∧ M 400 2 = w 1542 ∧ M 400 3 = w 1543 ∧ M 400 4 = w 1546
def LI (M : xM) (w T : Nat → Int) (n : Nat) : Prop := Cx M w T n ∧ NC M w ∧ LW w
def FRn (N : Nat) (M M1 : xM) : Prop := ∀ c, c ≠ N → (c = 0 ∨ (199 ≤ c ∧ c < 395) ∨ 400 ≤ c) → M1 c = M c
theorem FRn.refl (N : Nat) (M : xM) : FRn N M M := fun _ _ _ => rfl
theorem FRn.trans {N : Nat} {M M1 M2 : xM} (h : FRn N M M1) (h2 : FRn N M1 M2) : FRn N M M2 := fun c a b => (h2 c a b).trans (h c a b)
theorem FRn.up {N k : Nat} {v : Int} {M M1 : xM} (h : FRn N (xup M N k v) M1) : FRn N M M1 := fun c a b => by rw [h c a b, xup_row a]
theorem FRc.n {N : Nat} {M M1 : xM} (h : FRc M M1) : FRn N M M1 := fun c _ b => h c b
theorem FRc.trans {M M1 M2 : xM} (h : FRc M M1) (h2 : FRc M1 M2) : FRc M M2 := fun c b => (h2 c b).trans (h c b)
theorem FRc.refl (M : xM) : FRc M M := fun _ _ => rfl
theorem Cx.fr {M M1 : xM} {w T : Nat → Int} {n : Nat} (h : Cx M w T n) (e : ∀ c, c < 400 → M1 c = M c) : Cx M1 w T n :=
  ⟨h.1.fr (fun c _ _ => e c (by omega)), h.2.1.frM (fun c _ _ => e c (by omega)), h.2.2.1, fun a ha => by rw [e 2 (by omega)]; exact h.2.2.2.1 a ha, fun t ht => by rw [e _ (by omega)]; exact h.2.2.2.2 t ht⟩
theorem Cx.up {M : xM} {w T : Nat → Int} {n : Nat} (h : Cx M w T n) {N k : Nat} {v : Int} (hN : 400 ≤ N) : Cx (xup M N k v) w T n := h.fr (fun c hc => xup_row (by omega))
theorem Cx.mono {M : xM} {w T : Nat → Int} {n m : Nat} (h : Cx M w T n) (hm : n ≤ m) : Cx M w T m := ⟨h.1, h.2.1, h.2.2.1.mono (by omega), h.2.2.2.1, h.2.2.2.2⟩
theorem NC.fr {M M1 : xM} {w : Nat → Int} (h : NC M w) (e : M1 400 = M 400) : NC M1 w := by unfold NC; rw [e]; exact h
theorem NC.w {M : xM} {w w1 : Nat → Int} (h : NC M w) (e1 : w1 1542 = w 1542) (e2 : w1 1543 = w 1543) (e3 : w1 1546 = w 1546) : NC M w1 := by unfold NC; rw [e1, e2, e3]; exact h
theorem LI.mono {M : xM} {w T : Nat → Int} {n m : Nat} (h : LI M w T n) (hm : n ≤ m) : LI M w T m := ⟨h.1.mono hm, h.2⟩
theorem xup_r {M : xM} {c k : Nat} {v : Int} : xup M c k v c = ups (M c) k v := by
  funext b; unfold xup ups
  by_cases q : b = k
  · rw [if_pos q]; simp [q]
  · rw [if_neg q]; simp [q]
/-- two instructions for a trade -/
theorem sm_ge2 {f g : Nat → Int} {a b : Nat} (hab : a ≠ b) : ∀ n, (∀ i, i < n → f i ≤ g i) → (a < n → f a + 1 ≤ g a) → (b < n → f b + 1 ≤ g b) → sm f n + (if a < n then 1 else 0) + (if b < n then 1 else 0) ≤ sm g n
  | 0, _, _, _ => by rw [if_neg (Nat.not_lt_zero _), if_neg (Nat.not_lt_zero _)]; exact Int.le_refl _
  | n + 1, h, ha, hb => by
    have ih := sm_ge2 hab n (fun i hi => h i (by omega)) (fun z => ha (by omega)) (fun z => hb (by omega))
    have hn := h n (by omega)
    unfold sm
    by_cases z1 : a = n
    · have h1 := ha (by omega)
      rw [z1] at h1
      rw [if_neg (by omega)] at ih
      rw [if_pos (by omega)]
      by_cases z2 : b < n
      · rw [if_pos z2] at ih; rw [if_pos (by omega)]; omega
      · rw [if_neg z2] at ih; rw [if_neg (by omega)]; omega
    · by_cases z2 : b = n
      · have h1 := hb (by omega)
        rw [z2] at h1
        rw [if_neg (show ¬ b < n by omega)] at ih
        rw [if_pos (show b < n + 1 by omega)]
        by_cases z3 : a < n
        · rw [if_pos z3] at ih; rw [if_pos (by omega)]; omega
        · rw [if_neg z3] at ih; rw [if_neg (by omega)]; omega
      · by_cases z3 : a < n
        · rw [if_pos z3] at ih
          rw [if_pos (show a < n + 1 by omega)]
          by_cases z4 : b < n
          · rw [if_pos z4] at ih; rw [if_pos (by omega)]; omega
          · rw [if_neg z4] at ih; rw [if_neg (by omega)]; omega
        · rw [if_neg z3] at ih
          rw [if_neg (show ¬ a < n + 1 by omega)]
          by_cases z4 : b < n
          · rw [if_pos z4] at ih; rw [if_pos (by omega)]; omega
          · rw [if_neg z4] at ih; rw [if_neg (by omega)]; omega
theorem sm_le1 {f : Nat → Int} : ∀ n, (∀ i, i < n → f i ≤ 1) → sm f n ≤ (n : Int)
  | 0, _ => Int.le_refl 0
  | n + 1, h => by have := sm_le1 n (fun i hi => h i (by omega)); have := h n (by omega); unfold sm; omega
def cT (w : Nat → Int) (T : Nat) (i : Nat) : Int := if 0 ≤ w (650 + i) ∧ w (650 + i) < (T : Int) then 1 else 0
theorem cT_2 {w : Nat → Int} (h0 : Inv0 w) {N : Nat} (hN : w 1542 = (N : Int)) : ∀ T : Nat, (T : Int) ≤ w 1543 → 2 * (T : Int) ≤ sm (cT w T) N
  | 0, _ => by
    have := sm_nn (f := cT w 0) N (fun i _ => by unfold cT; split <;> omega)
    omega
  | T + 1, h => by
    have ih := cT_2 h0 hN T (by omega)
    have f := h0.tf (t := T) (by omega)
    have k := (h0.2.2.2.2.2.1 T f.1).1 (by omega)
    have d1 := k.1
    have d2 := k.2.1
    have e1 := k.2.2.2.2.2.2.2.2.2.2.2.2.1
    have e2 := k.2.2.2.2.2.2.2.2.2.2.2.2.2
    have fd := f.2.2.2.2.2.2.1
    have fr := f.2.2.2.2.2.2.2.1
    have hne : di w T ≠ ri w T := fun z => k.2.2.1 (by rw [z])
    have g := sm_ge2 (f := cT w T) (g := cT w (T + 1)) hne N (fun i hi => by
      unfold cT
      by_cases z : 0 ≤ w (650 + i) ∧ w (650 + i) < (T : Int)
      · rw [if_pos z, if_pos (by omega)]; exact Int.le_refl _
      · rw [if_neg z]; split <;> omega) (fun _ => by
      unfold cT
      rw [if_neg (by omega), if_pos (by omega)]; exact Int.le_refl _) (fun _ => by
      unfold cT
      rw [if_neg (by omega), if_pos (by omega)]; exact Int.le_refl _)
    rw [if_pos (by omega), if_pos (by omega)] at g
    omega
theorem t14 {w : Nat → Int} (h0 : Inv0 w) : 2 * w 1543 ≤ w 1542 := by
  obtain ⟨N, hN⟩ := ex_nat h0.1.2.2.1.1
  obtain ⟨T, hT⟩ := ex_nat h0.1.2.2.2.1.1
  have a := cT_2 h0 hN T (by omega)
  have b := sm_le1 (f := cT w T) N (fun i _ => by unfold cT; split <;> omega)
  omega
/-! tell -/
def rw133 (w : Nat → Int) : Nat → Nat → (Nat → Int) → (Nat → Int)
  | 0, _, r => ups (ups (ups r 55 (w 1547)) 56 (w 1545)) 57 (bv w)
  | k + 1, t, r => rw133 w k (t + 1) (ups r (33 + t) (w64 (w64 (1000000 * w (770 + t)) + w (790 + t))))
def rw99 (w : Nat → Int) : Nat → Nat → (Nat → Int) → (Nat → Int)
  | 0, _, r => rw133 w (w 1543).toNat 0 r
  | k + 1, i, r => rw99 w k (i + 1) (ups r 32 (w64 (w64 (5 * w64 (r 32)) + w (570 + i))))
def rw47 (w : Nat → Int) (a : Nat) : Nat → Nat → (Nat → Int) → (Nat → Int)
  | 0, _, r => r
  | k + 1, s, r => rw47 w a k (s + 1) (ups r (18 + 2 * a + s) (w64 (w64 (1000000 * w (100 + 4 * a + s)) + sFree w a s)))
def rw7 (w : Nat → Int) : Nat → Nat → (Nat → Int) → (Nat → Int)
  | 0, _, r => rw99 w (w 1542).toNat 0 r
  | k + 1, a, r => rw7 w k (a + 1) (rw47 w a 2 0 (ups (ups (ups r a (w (30 + a))) (6 + a) (w (80 + a))) (12 + a) (w (40 + a))))
def TR (w : Nat → Int) : Nat → Int := rw7 w 6 0 (fun _ => 0)
theorem c_day {M : xM} {w : Nat → Int} (h : R M w) : fX11_today 0 M = some (.inl (w 1547), M) := by unfold fX11_today; rw [xr_0_1, h.day]; rfl
theorem c_lns {M : xM} {w : Nat → Int} (h : R M w) : fX11_loans 0 M = some (.inl (w 1545), M) := by unfold fX11_loans; rw [xr_0_1, h.nL]; rfl
theorem tl_133 {w T : Nat → Int} {n N nT : Nat} (hn5 : n ≤ 500) (hN : 401 ≤ N) (hT : w 1543 = (nT : Int)) (h14 : nT ≤ 14) : ∀ (k t m : Nat) (M : xM), t + k = nT → k < m → Cx M w T n → M 400 3 = w 1543 → ∃ M1, fL_tell_133 0 400 N m (t : Int) M = some (.inl (N : Int), M1) ∧ Cx M1 w T n ∧ M1 N = rw133 w k t (M N) ∧ FRn N M M1
  | _, _, 0, _, _, hm, _, _ => absurd hm (Nat.not_lt_zero _)
  | 0, t, m + 1, M, hk, _, h, h3 => by
    have h1 := h.up (N := N) (k := 55) (v := w 1547) (by omega)
    have h2 := h1.up (N := N) (k := 56) (v := w 1545) (by omega)
    obtain ⟨M1, b1, b2, b3⟩ := kop_best h2 hn5
    refine ⟨xup M1 N 57 (bv w), ?_, b2.up (by omega), ?_, fun c hc hb => ?_⟩
    · rw [fL_tell_133, if_pos (by omega), c_day h.1, xb_l, xix_t (by omega) (by omega), xput_b, c_lns h1.1, xb_l, xix_t (by omega) (by omega), xput_b, b1, xb_l, xix_t (by omega) (by omega), xput_b]; rfl
    · rw [xup_r, b3 N (by omega), xup_r, xup_r]; rfl
    · rw [xup_row hc, b3 c hb, xup_row hc, xup_row hc]
  | k + 1, t, m + 1, M, hk, hm, h, h3 => by
    have hC := h.2.2.1.1.1
    obtain ⟨M1, b1, b2, b3, b4⟩ := tl_133 hn5 hN hT h14 k (t + 1) m (xup M N (33 + t) (w64 (w64 (1000000 * w (770 + t)) + w (790 + t)))) (by omega) (by omega) (h.up (by omega)) (by rw [xup_c (by omega)]; exact h3)
    refine ⟨M1, ?_, b2, by rw [b3, xup_r]; rfl, b4.up⟩
    rw [fL_tell_133, if_neg (by omega), cg_tradeUnits h.1 hC, inb_i (by omega), if_t, xb_l, cg_tradeAmount h.1 hC, inb_i (by omega), if_t, xb_l, w32_i (x := 33 + (t : Int)) (by omega) (by omega), xix_t (by omega) (by omega), xput_b, show (33 + (t : Int)).toNat = 33 + t by omega, w32_s (by omega), Int.toNat_natCast]
    exact b1
theorem tl_99 {w T : Nat → Int} {n N nT nI : Nat} (hn5 : n ≤ 500) (hN : 401 ≤ N) (hT : w 1543 = (nT : Int)) (h14 : nT ≤ 14) (hI : w 1542 = (nI : Int)) (h28 : nI ≤ 28) : ∀ (k i m : Nat) (M : xM), i + k = nI → k < m → Cx M w T n → M 400 2 = w 1542 → M 400 3 = w 1543 → ∃ M1, fL_tell_99 0 400 N m (i : Int) M = some (.inl (N : Int), M1) ∧ Cx M1 w T n ∧ M1 N = rw99 w k i (M N) ∧ FRn N M M1
  | _, _, 0, _, _, hm, _, _, _ => absurd hm (Nat.not_lt_zero _)
  | 0, i, m + 1, M, hk, _, h, h2, h3 => by
    obtain ⟨M1, b1, b2, b3, b4⟩ := tl_133 hn5 hN hT h14 nT 0 15 M (by omega) (by omega) h h3
    refine ⟨M1, ?_, b2, ?_, b4⟩
    · rw [fL_tell_99, if_pos (by omega)]; exact b1
    · rw [b3]; unfold rw99; rw [hT, Int.toNat_natCast]
  | k + 1, i, m + 1, M, hk, hm, h, h2, h3 => by
    have hC := h.2.2.1.1.1
    obtain ⟨M1, b1, b2, b3, b4⟩ := tl_99 hn5 hN hT h14 hI h28 k (i + 1) m (xup M N 32 (w64 (w64 (5 * w64 (M N 32)) + w (570 + i)))) (by omega) (by omega) (h.up (by omega)) (by rw [xup_c (by omega)]; exact h2) (by rw [xup_c (by omega)]; exact h3)
    refine ⟨M1, ?_, b2, by rw [b3, xup_r]; rfl, b4.up⟩
    rw [fL_tell_99, if_neg (by omega), xix_t (by omega) (by omega), cg_status h.1 hC, inb_i (by omega), if_t, xb_l, xix_t (by omega) (by omega), xput_b, w32_s (by omega), Int.toNat_natCast]
    exact b1
theorem tl_47 {w T : Nat → Int} {n N a : Nat} (rc : Int → xM → xO) (hN : 401 ≤ N) (ha : a < 6) (hA : w 1540 = 6) (hS : w 1541 = 2) : ∀ (k s m : Nat) (M : xM), s + k = 2 → k < m → Cx M w T n → M 400 1 = 2 → ∃ M1, fL_tell_47 rc 0 400 N (a : Int) m (s : Int) M = rc ((a + 1 : Nat) : Int) M1 ∧ Cx M1 w T n ∧ M1 N = rw47 w a k s (M N) ∧ FRn N M M1
  | _, _, 0, _, _, hm, _, _ => absurd hm (Nat.not_lt_zero _)
  | 0, s, m + 1, M, hk, _, h, h1 => by
    refine ⟨M, ?_, h, rfl, FRn.refl N M⟩
    rw [fL_tell_47, if_pos (by omega), w32_s (by omega)]
  | k + 1, s, m + 1, M, hk, hm, h, h1 => by
    have hC := h.2.2.1.1.1
    obtain ⟨M1, b1, b2, b3, b4⟩ := tl_47 rc hN ha hA hS k (s + 1) m (xup M N (18 + 2 * a + s) (w64 (w64 (1000000 * w (100 + 4 * a + s)) + sFree w a s))) (by omega) (by omega) (h.up (by omega)) (by rw [xup_c (by omega)]; exact h1)
    refine ⟨M1, ?_, b2, by rw [b3, xup_r]; rfl, b4.up⟩
    have e : w32 (w32 (18 + w32 (2 * (a : Int))) + (s : Int)) = ((18 + 2 * a + s : Nat) : Int) := by
      rw [w32_i (x := 2 * (a : Int)) (by omega) (by omega), w32_i (x := 18 + 2 * (a : Int)) (by omega) (by omega), w32_i (by omega) (by omega)]; omega
    rw [fL_tell_47, if_neg (by omega), cg_units h.1 hC, inb_i (by omega), inb_i (by omega), Bool.and_self, if_t, xb_l, cg_free h.1 hC, inb_i (by omega), inb_i (by omega), Bool.and_self, if_t, xb_l, e, xix_t (by omega) (by omega), xput_b, w32_s (by omega), Int.toNat_natCast, Int.toNat_natCast, Int.toNat_natCast]
    exact b1
theorem tl_7 {w T : Nat → Int} {n N nT nI : Nat} (hn5 : n ≤ 500) (hN : 401 ≤ N) (hT : w 1543 = (nT : Int)) (h14 : nT ≤ 14) (hI : w 1542 = (nI : Int)) (h28 : nI ≤ 28) (hA : w 1540 = 6) (hS : w 1541 = 2) : ∀ (k a m : Nat) (M : xM), a + k = 6 → k < m → Cx M w T n → NC M w → ∃ M1, fL_tell_7 0 400 N m (a : Int) M = some (.inl (N : Int), M1) ∧ Cx M1 w T n ∧ M1 N = rw7 w k a (M N) ∧ FRn N M M1
  | _, _, 0, _, _, hm, _, _ => absurd hm (Nat.not_lt_zero _)
  | 0, a, m + 1, M, hk, _, h, hc => by
    obtain ⟨M1, b1, b2, b3, b4⟩ := tl_99 hn5 hN hT h14 hI h28 nI 0 29 M (by omega) (by omega) h hc.2.2.1 hc.2.2.2.1
    refine ⟨M1, ?_, b2, ?_, b4⟩
    · rw [fL_tell_7, if_pos (by rw [hc.1]; omega)]; exact b1
    · rw [b3]; unfold rw7; rw [hI, Int.toNat_natCast]
  | k + 1, a, m + 1, M, hk, hm, h, hc => by
    have hC := h.2.2.1.1.1
    have h1 := h.up (N := N) (k := a) (v := w (30 + a)) (by omega)
    have h2 := h1.up (N := N) (k := 6 + a) (v := w (80 + a)) (by omega)
    have h3 := h2.up (N := N) (k := 12 + a) (v := w (40 + a)) (by omega)
    obtain ⟨M1, b1, b2, b3, b4⟩ := tl_47 (fL_tell_7 0 400 N m) hN (a := a) (by omega) hA hS 2 0 3 _ (by omega) (by omega) h3 (by rw [xup_c (by omega), xup_c (by omega), xup_c (by omega)]; exact hc.2.1)
    have f1 := b4.up.up.up
    obtain ⟨M2, c1, c2, c3, c4⟩ := tl_7 hn5 hN hT h14 hI h28 hA hS k (a + 1) m M1 (by omega) (by omega) b2 (hc.fr (f1 400 (by omega) (by omega)))
    refine ⟨M2, ?_, c2, ?_, f1.trans c4⟩
    · rw [fL_tell_7, if_neg (by rw [hc.1]; omega), cg_cash h.1 hC, inb_i (by omega), if_t, xb_l, xix_t (by omega) (by omega), xput_b, Int.toNat_natCast, cg_ledger h1.1 hC, inb_i (by omega), if_t, xb_l, w32_i (x := 6 + (a : Int)) (by omega) (by omega), xix_t (by omega) (by omega), xput_b, show (6 + (a : Int)).toNat = 6 + a by omega, Int.toNat_natCast, cg_pledged h2.1 hC, inb_i (by omega), if_t, xb_l, w32_i (x := 12 + (a : Int)) (by omega) (by omega), xix_t (by omega) (by omega), xput_b, show (12 + (a : Int)).toNat = 12 + a by omega, Int.toNat_natCast]
      exact (show fL_tell_47 (fL_tell_7 0 400 N m) 0 400 N (a : Int) 3 0 _ = _ from b1).trans c1
    · rw [c3, b3, xup_r, xup_r, xup_r]; rfl
theorem LI.cnt {M : xM} {w T : Nat → Int} {n : Nat} (h : LI M w T n) : ∃ nT nI : Nat, w 1543 = (nT : Int) ∧ nT ≤ 14 ∧ w 1542 = (nI : Int) ∧ nI ≤ 28 := by
  obtain ⟨⟨-, -, ⟨h0, -, -⟩, -, -⟩, -, -, -, ⟨k, hk, hk2⟩, -⟩ := h
  obtain ⟨nT, hT⟩ := ex_nat h0.1.2.2.2.1.1
  have := t14 h0
  exact ⟨nT, 2 * k, hT, by omega, by omega, by omega⟩
theorem LI.fr {M M1 : xM} {w T : Nat → Int} {n : Nat} (h : LI M w T n) (hc : Cx M1 w T n) (e : M1 400 = M 400) : LI M1 w T n := ⟨hc, h.2.1.fr e, h.2.2⟩
theorem tell_ok {M : xM} {w T : Nat → Int} {n N : Nat} (h : LI M w T n) (hn5 : n ≤ 500) (hN : 401 ≤ N) (hN2 : N < 900000) (K : xM → xO) : ∃ M1, xtell N (fL_tell 0 400) M K = K M1 ∧ LI M1 w T n ∧ M1 N = TR w ∧ FRn N M M1 := by
  obtain ⟨nT, nI, hT, h14, hI, h28⟩ := h.cnt
  obtain ⟨hx, hc, hw⟩ := id h
  have z : ∀ c, c ≠ N → xzr N M c = M c := fun c hc => by funext k; exact if_neg hc
  have z0 : xzr N M N = fun _ => 0 := by funext k; exact if_pos rfl
  obtain ⟨M1, b1, b2, b3, b4⟩ := tl_7 hn5 hN hT h14 hI h28 hw.1 hw.2.1 6 0 7 (xzr N M) (by omega) (by omega) (hx.fr (fun c hc => z c (by omega))) (hc.fr (z 400 (by omega)))
  have f : FRn N M M1 := fun c a b => by rw [b4 c a b, z c a]
  refine ⟨M1, ?_, h.fr b2 (f 400 (by omega) (by omega)), by rw [b3, z0]; rfl, f⟩
  unfold xtell
  rw [if_pos hN2, show fL_tell 0 400 N (xzr N M) = _ from b1, xbc_l, if_pos rfl]
theorem same_l {x y : Nat} {M : xM} (e : M x = M y) : ∀ (k i m : Nat), i + k = 60 → k < m → fL_same_2 x y m (i : Int) M = some (.inl 1, M)
  | _, _, 0, _, hm => absurd hm (Nat.not_lt_zero _)
  | 0, i, m + 1, hk, _ => by rw [fL_same_2, if_pos (by omega)]; rfl
  | k + 1, i, m + 1, hk, hm => by
    rw [fL_same_2, if_neg (by omega), xix_t (by omega) (by omega), xix_t (by omega) (by omega), e, if_pos rfl, w32_s (by omega)]
    exact same_l e k (i + 1) m (by omega) (by omega)
theorem same_ok {x y : Nat} {M : xM} (e : M x = M y) : fL_same x y M = some (.inl 1, M) := same_l e 60 0 61 (by omega) (by omega)
theorem cash_l {M : xM} {w T : Nat → Int} {n : Nat} (h : LI M w T n) : ∀ (k a m : Nat), a + k = 6 → k < m → fL_cash_5 0 400 m (w64 (sm (fun a => w (30 + a)) a)) (a : Int) M = some (.inl (w64 (sm (fun a => w (30 + a)) 6)), M)
  | _, _, 0, _, hm => absurd hm (Nat.not_lt_zero _)
  | 0, a, m + 1, hk, _ => by
    rw [fL_cash_5, if_pos (by rw [h.2.1.1]; omega), show a = 6 by omega]; rfl
  | k + 1, a, m + 1, hk, hm => by
    have hC := h.1.2.2.1.1.1
    rw [fL_cash_5, if_neg (by rw [h.2.1.1]; omega), cg_cash h.1.1 hC, inb_i (by rw [h.2.2.1]; omega), if_t, xb_l, xlet_b, w32_s (by omega), w64_add, Int.toNat_natCast]
    exact cash_l h k (a + 1) m (by omega) (by omega)
theorem cash_ok {M : xM} {w T : Nat → Int} {n : Nat} (h : LI M w T n) : fL_cash 0 400 M = some (.inl (w64 (sm (fun a => w (30 + a)) 6)), M) := cash_l h 6 0 7 (by omega) (by omega)
