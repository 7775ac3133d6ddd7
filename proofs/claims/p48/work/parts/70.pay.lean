-- dividends, options, claims
def PF (w : Nat → Int) : Prop := IC w ∧ IA w ∧ IS w
theorem PF.fr {w w' : Nat → Int} (h : PF w) (hw : ∀ j, (j < 30 ∨ (50 ≤ j ∧ j < 80) ∨ (180 ≤ j ∧ j < 192) ∨ (196 ≤ j ∧ j < 205) ∨ (1540 ≤ j ∧ j ≤ 1547)) → w' j = w j) : PF w' :=
  ⟨h.1.fr (fun j _ _ => hw j (by omega)), h.2.1.fr h.1 (fun j _ => hw j (by omega)), h.2.2.fr (fun j _ => hw j (by omega))⟩
theorem Inv0.pf {w : Nat → Int} (h : Inv0 w) : PF w := ⟨h.1, h.2.1, h.2.2.1⟩
def sRt (w : Nat → Int) (a s : Nat) : Int := if w (70 + a) = 1 then w (196 + (3 * (w (180 + s)).toNat + (w (20 + a)).toNat)) else 30
def sNt (w : Nat → Int) (a s : Nat) (g : Int) : Int := w64 (g - Int.tdiv (w64 (g * sRt w a s)) 100)
def wCr (w : Nat → Int) (a s : Nat) (g : Int) : Nat → Int := ups w (30 + a) (w64 (w (30 + a) + sNt w a s g))
theorem PF.rt {w : Nat → Int} (h : PF w) {a s : Nat} (ha : a < 10) (hs : s < 4) : ∃ c o : Nat, c < 3 ∧ o < 3 ∧ w (180 + s) = (c : Int) ∧ w (20 + a) = (o : Int) ∧ sRt w a s = (if w (70 + a) = 1 then w (196 + (3 * c + o)) else 30) ∧ 0 ≤ w (196 + (3 * c + o)) ∧ w (196 + (3 * c + o)) ≤ 30 := by
  have k1 := (h.2.1 a ha).1
  have k2 := (h.2.2.1 s hs).1
  have k3 := h.2.2.2 (3 * (w (180 + s)).toNat + (w (20 + a)).toNat) (by omega)
  exact ⟨(w (180 + s)).toNat, (w (20 + a)).toNat, by omega, by omega, by omega, by omega, rfl, k3.1, k3.2⟩
theorem c_plt {M : xM} {w T : Nat → Int} (hS : SS M w T) (hP : PF w) {a s : Nat} (ha : a < 10) (hs : s < 4) (g : Int) : ∃ M', fX3_payLessTax 399 (a : Int) (s : Int) g M = some (.inl 0, M') ∧ SS M' (wCr w a s g) T ∧ fz M M' := by
  obtain ⟨hR, hV, hT⟩ := hS
  obtain ⟨c, o, hc, ho, e1, e2, e3, e4, e5⟩ := hP.rt ha hs
  have hb := (hP.2.1 a ha).2.2.2.1
  refine ⟨xup M (12 + 4 * a) 5 (w64 (w (30 + a) + sNt w a s g)), ?_, ⟨hR.cash_up ha, hV.up (by omega) (by omega) (by omega) (by omega) (by omega) (by omega) (by omega), hT.c (by omega)⟩, (fz.refl M).x (by omega)⟩
  unfold fX3_payLessTax fX3_payLessTax_46 sNt
  rw [xr_399_0, c_acc (by omega), xb_l, Int.toNat_natCast, hR.rel ha, hb.nz, c_sec (by omega), xb_l, Int.toNat_natCast, hR.scty hs, hR.country ha, e1, e2, c_trt hR hc ho, xb_l, xput_b, xput_b, hR.cash ha, e3, w32_i (by omega) (by omega)]
  by_cases z : w (70 + a) = 1
  · rw [if_pos z, decide_eq_true z]; rfl
  · rw [if_neg z, decide_eq_false z]; rfl
theorem m_cr {M : xM} {w T : Nat → Int} {h : Int} (hP : PF w) {a s : Nat} (ha : a < 10) (hs : s < 4) (g : Int) : fX12_credit 400 (a : Int) (s : Int) g (st M w T h) = some (.inl 0, st M (wCr w a s g) T h) := by
  obtain ⟨c, o, hc, ho, e1, e2, e3, e4, e5⟩ := hP.rt ha hs
  unfold fX12_credit fX12_credit_53 wCr sNt
  simp (disch := omega) only [w32_i, xix_t, xr_400_0, tn_add, tn_3, Int.toNat_natCast, Int.reduceToNat, xput_b, st_w, st_401, e1, e2]
  rw [e3]
  by_cases z : w (70 + a) = 1
  · rw [if_pos z, if_pos z, show 196 + 3 * c + o = 196 + (3 * c + o) by omega]; rfl
  · rw [if_neg z, if_neg z]; rfl
theorem wCr_ne {w : Nat → Int} {a s : Nat} {g : Int} {j : Nat} (h : j ≠ 30 + a) : wCr w a s g j = w j := ups_ne h
theorem wCr_e {w w1 : Nat → Int} (h : eqo pm w w1) {a : Nat} (ha : a < 10) (s : Nat) (g : Int) : eqo pm w (wCr w1 a s g) := h.up (by simp [pm]; omega)
/-- a credit is no more than what is paid -/
theorem wCr_im {w : Nat → Int} {N : Int} (hM : IM N w) (hN0 : 0 ≤ N) (hN : N ≤ 4000000000000000000) (hP : PF w) {a s : Nat} (ha : a < 10) (hs : s < 4) {g : Int} (h0 : 0 ≤ g) (h1 : g ≤ 60000000000000) : IM (N + 60000000000000) (wCr w a s g) := by
  obtain ⟨c, o, hc, ho, e1, e2, e3, e4, e5⟩ := hP.rt ha hs
  have hr : 0 ≤ sRt w a s ∧ sRt w a s ≤ 30 := by rw [e3]; split <;> omega
  have m0 : 0 ≤ g * sRt w a s := Int.mul_nonneg h0 hr.1
  have m1 : g * sRt w a s ≤ 60000000000000 * 30 := Int.mul_le_mul h1 hr.2 hr.1 (by omega)
  have m2 : g * sRt w a s ≤ g * 100 := Int.mul_le_mul_of_nonneg_left (by omega) h0
  have e : sNt w a s g = g - g * sRt w a s / 100 := by
    unfold sNt
    rw [w64_i (x := g * sRt w a s) (by omega) (by omega), Int.tdiv_eq_ediv_of_nonneg m0, w64_i (by omega) (by omega)]
  intro b hb
  have k := hM b hb
  have ka := hM a ha
  have ev : wCr w a s g (30 + b) = if b = a then w (30 + a) + sNt w a s g else w (30 + b) := by
    unfold wCr
    by_cases z : b = a
    · rw [z, ups_same, if_pos rfl, w64_i (by omega) (by omega)]
    · rw [ups_ne (by omega), if_neg z]
  rw [ev, wCr_ne (j := 40 + b) (by omega), wCr_ne (j := 80 + b) (by omega)]
  split <;> omega
-- a dividend
def lDv (e s : Nat) : Nat → Nat → (Nat → Int) → (Nat → Int)
  | 0, _, w => w
  | k + 1, a, w => lDv e s k (a + 1) (wCr w a s (w64 (w (1140 + 10 * e + a) * w (1070 + e))))
theorem c_ent {M : xM} {w : Nat → Int} (hR : R M w) {e a : Nat} (he : e < 10) (ha : a < 10) : fX4_entitledOf (155 + 4 * e) (a : Int) M = some (.inl (w (1140 + 10 * e + a)), M) := by
  unfold fX4_entitledOf
  rw [if_neg (by omega), if_neg (by omega), xix_t (by omega) (by omega), xr_ent e (by omega), Int.toNat_natCast, hR.eent he ha]; rfl
theorem c_dv {T : Nat → Int} {e s : Nat} (he : e < 10) (hs : s < 4) : ∀ (k a n : Nat) (M : xM) (w : Nat → Int), (a : Int) + k = w 1540 → k < n → SS M w T → PF w → w (1060 + e) = (s : Int) → ∃ M', fX3_payDividend_2 399 (155 + 4 * e) n (a : Int) M = some (.inl 0, M') ∧ SS M' (lDv e s k a w) T ∧ fz M M'
  | _, _, 0, _, _, _, hn, _, _, _ => absurd hn (Nat.not_lt_zero _)
  | 0, a, n + 1, M, w, ha, _, hS, hP, hes => by
    refine ⟨M, ?_, hS, fz.refl M⟩
    rw [fX3_payDividend_2, xr_399_0, if_pos (by rw [hS.1.nA]; omega)]; rfl
  | k + 1, a, n + 1, M, w, ha, hn, hS, hP, hes => by
    have c0 := hP.1.1
    have ha4 : a < 10 := by omega
    obtain ⟨M1, a1, a2, a3⟩ := c_plt hS hP ha4 hs (w64 (w (1140 + 10 * e + a) * w (1070 + e)))
    obtain ⟨M2, b1, b2, b3⟩ := c_dv he hs k (a + 1) n M1 (wCr w a s (w64 (w (1140 + 10 * e + a) * w (1070 + e)))) (by rw [wCr_ne (by omega)]; omega) (by omega) a2 (hP.fr (fun j _ => wCr_ne (by omega))) (by rw [wCr_ne (by omega)]; exact hes)
    refine ⟨M2, ?_, b2, a3.trans b3⟩
    rw [fX3_payDividend_2, xr_399_0, if_neg (by rw [hS.1.nA]; omega), c_ent hS.1 he ha4, xb_l, hS.1.esec he, hS.1.ea he, hes, Int.mul_comm, a1, xb_l, w32_s (by omega)]; exact b1
theorem m_dv {M : xM} {T : Nat → Int} {h : Int} {e s : Nat} (he : e < 10) (hs : s < 4) : ∀ (k a n : Nat) (w : Nat → Int), (a : Int) + k = w 1540 → k < n → PF w → w (1060 + e) = (s : Int) → fX12_dividend_2 400 (e : Int) n (a : Int) (st M w T h) = some (.inl 0, st M (lDv e s k a w) T h)
  | _, _, 0, _, _, hn, _, _ => absurd hn (Nat.not_lt_zero _)
  | 0, a, n + 1, w, ha, _, hP, hes => by
    rw [fX12_dividend_2, xr_400_0, st_401, if_pos (by omega)]; rfl
  | k + 1, a, n + 1, w, ha, hn, hP, hes => by
    have c0 := hP.1.1
    have ha4 : a < 10 := by omega
    have ih := m_dv (M := M) (T := T) (h := h) he hs k (a + 1) n (wCr w a s (w64 (w (1140 + 10 * e + a) * w (1070 + e)))) (by rw [wCr_ne (by omega)]; omega) (by omega) (hP.fr (fun j _ => wCr_ne (by omega))) (by rw [wCr_ne (by omega)]; exact hes)
    rw [fX12_dividend_2, xr_400_0, st_401, if_neg (by omega)]
    simp (disch := omega) only [w32_i, xix_t, tn_add, tn_10, Int.toNat_natCast, Int.reduceToNat, hes]
    rw [m_cr hP ha4 hs, xb_l, show (a : Int) + 1 = ((a + 1 : Nat) : Int) by omega, ih]; rfl
theorem lDv_i {e s : Nat} (he : e < 10) (hs : s < 4) {w0 : Nat → Int} (hg : ∀ a : Nat, a < 10 → 0 ≤ w0 (1140 + 10 * e + a) ∧ w0 (1140 + 10 * e + a) ≤ 59049000000) (hk : 1 ≤ w0 (1070 + e) ∧ w0 (1070 + e) ≤ 1000) : ∀ (k a : Nat) (w : Nat → Int) (N : Int), a + k ≤ 10 → PF w → eqo pm w0 w → IM N w → 0 ≤ N → N + k * 60000000000000 ≤ 4000000000000000000 → eqo pm w0 (lDv e s k a w) ∧ IM (N + k * 60000000000000) (lDv e s k a w)
  | 0, a, w, N, _, _, he0, hM, _, _ => ⟨he0, by rw [show N + ((0 : Nat) : Int) * 60000000000000 = N by omega]; exact hM⟩
  | k + 1, a, w, N, hak, hP, he0, hM, h0, hN => by
    have ga := hg a (by omega)
    have e1 : w (1140 + 10 * e + a) = w0 (1140 + 10 * e + a) := he0 _ (pm_f (by omega))
    have e2 : w (1070 + e) = w0 (1070 + e) := he0 _ (pm_f (by omega))
    have m0 : 0 ≤ w0 (1140 + 10 * e + a) * w0 (1070 + e) := Int.mul_nonneg ga.1 (by omega)
    have m1 : w0 (1140 + 10 * e + a) * w0 (1070 + e) ≤ 59049000000 * 1000 := Int.mul_le_mul ga.2 hk.2 (by omega) (by omega)
    have im := wCr_im hM h0 (by omega) hP (a := a) (s := s) (by omega) hs (g := w64 (w (1140 + 10 * e + a) * w (1070 + e))) (by rw [e1, e2, w64_i (by omega) (by omega)]; exact m0) (by rw [e1, e2, w64_i (by omega) (by omega)]; omega)
    have r := lDv_i he hs hg hk k (a + 1) (wCr w a s (w64 (w (1140 + 10 * e + a) * w (1070 + e)))) (N + 60000000000000) (by omega) (hP.fr (fun j _ => wCr_ne (by omega))) (wCr_e he0 (by omega) s _) im (by omega) (by omega)
    unfold lDv
    rw [show N + ((k + 1 : Nat) : Int) * 60000000000000 = N + 60000000000000 + (k : Int) * 60000000000000 by omega]
    exact r
-- claims
def lCm (e : Nat) : Nat → Nat → (Nat → Int) → (Nat → Int)
  | 0, _, w => w
  | k + 1, t, w => lCm e k (t + 1) (wOw w (dl w t) (rc w t) (w64 (w (1340 + 20 * e + t) * w (1070 + e))))
theorem c_cm {T : Nat → Int} {e : Nat} (he : e < 10) : ∀ (k t n : Nat) (M : xM) (w : Nat → Int), (t : Int) + k = w 1543 → k < n → SS M w T → LT w → ∃ M', fX3_payClaims_2 399 (155 + 4 * e) n (t : Int) M = some (.inl 0, M') ∧ SS M' (lCm e k t w) T ∧ fz M M'
  | _, _, 0, _, _, _, hn, _, _ => absurd hn (Nat.not_lt_zero _)
  | 0, t, n + 1, M, w, ht, _, hS, hL => by
    refine ⟨M, ?_, hS, fz.refl M⟩
    rw [fX3_payClaims_2, xr_399_0, if_pos (by rw [hS.1.nT]; omega)]; rfl
  | k + 1, t, n + 1, M, w, ht, hn, hS, hL => by
    have hl : (t : Int) < w 1543 := by omega
    have f := hL.2 t hl
    have f0 := f.1
    obtain ⟨M1, a1, a2, a3⟩ := c_owe hS f.2.2.2.1 f.2.2.2.2.1 (w64 (w (1340 + 20 * e + t) * w (1070 + e)))
    have ev := wOw_e (eqo.refl pm w) f.2.2.2.1 f.2.2.2.2.1 (w64 (w (1340 + 20 * e + t) * w (1070 + e)))
    obtain ⟨M2, b1, b2, b3⟩ := c_cm he k (t + 1) n M1 _ (by rw [ev 1543 (pm_f (by omega))]; omega) (by omega) a2 (hL.pm ev)
    refine ⟨M2, ?_, b2, a3.trans b3⟩
    have ec : fX4_claimedOf (155 + 4 * e) (t : Int) M = some (.inl (w (1340 + 20 * e + t)), M) := by
      unfold fX4_claimedOf
      rw [if_neg (by omega), if_neg (by omega), xix_t (by omega) (by omega), xr_clm e (by omega), Int.toNat_natCast, hS.1.eclm he f0]; rfl
    rw [fX3_payClaims_2, xr_399_0, if_neg (by rw [hS.1.nT]; omega), c_trd (by omega), xb_l, Int.toNat_natCast, ec, xb_l, hS.1.tD hl f, hS.1.tR hl f, hS.1.ea he, Int.mul_comm, a1, xb_l, w32_s (by omega)]; exact b1
theorem m_cm {M : xM} {T : Nat → Int} {h : Int} {e : Nat} (he : e < 10) : ∀ (k t n : Nat) (w : Nat → Int), (t : Int) + k = w 1543 → k < n → LT w → fX12_pay_62 400 (e : Int) n (t : Int) (st M w T h) = some (.inl 0, st M (lCm e k t w) T h)
  | _, _, 0, _, _, hn, _ => absurd hn (Nat.not_lt_zero _)
  | 0, t, n + 1, w, ht, _, hL => by
    rw [fX12_pay_62, xr_400_0, st_401, if_pos (by omega)]; rfl
  | k + 1, t, n + 1, w, ht, hn, hL => by
    have hl : (t : Int) < w 1543 := by omega
    have f := hL.2 t hl
    have f0 := f.1
    have ev := wOw_e (eqo.refl pm w) f.2.2.2.1 f.2.2.2.2.1 (w64 (w (1340 + 20 * e + t) * w (1070 + e)))
    have ih := m_cm (M := M) (T := T) (h := h) he k (t + 1) n _ (by rw [ev 1543 (pm_f (by omega))]; omega) (by omega) (hL.pm ev)
    rw [fX12_pay_62, xr_400_0, st_401, if_neg (by omega), m_dl (M := st M w T h) f, xb_l, m_rc (M := st M w T h) f, xb_l, st_401]
    simp (disch := omega) only [w32_i, xix_t, tn_add, tn_20, Int.toNat_natCast, Int.reduceToNat]
    rw [m_owe f.2.2.2.1 f.2.2.2.2.1, xb_l, show (t : Int) + 1 = ((t + 1 : Nat) : Int) by omega, ih]; rfl
theorem lCm_i {e : Nat} {w0 : Nat → Int} : ∀ (k t : Nat) (w : Nat → Int), (t : Int) + k ≤ w 1543 → LT w → eqo pm w0 w → lq w → (∀ j, 30 ≤ j → j < 50 → w j = w0 j) → eqo pm w0 (lCm e k t w) ∧ lq (lCm e k t w) ∧ (∀ j, 30 ≤ j → j < 50 → lCm e k t w j = w0 j)
  | 0, t, w, _, _, h1, h2, h3 => ⟨h1, h2, h3⟩
  | k + 1, t, w, ht, hL, h1, h2, h3 => by
    have f := hL.2 t (by omega)
    have ev := wOw_e (eqo.refl pm w) f.2.2.2.1 f.2.2.2.2.1 (w64 (w (1340 + 20 * e + t) * w (1070 + e)))
    unfold lCm
    exact lCm_i k (t + 1) _ (by rw [ev 1543 (pm_f (by omega))]; omega) (hL.pm ev) (h1.trans ev) (h2.ow _) (fun j a b => by rw [wOw_ne f.2.2.2.1 f.2.2.2.2.1 (by omega)]; exact h3 j a b)
/-- claims of nothing change nothing -/
theorem wOw_0 {w : Nat → Int} (h : lq w) {d c : Nat} (hd : d < 10) (hc : c < 10) : wOw w d c 0 = w := by
  have k1 := h d hd
  have k2 := h c hc
  unfold wOw
  rw [Int.sub_zero, w64_i (x := w (80 + d)) (by omega) (by omega), ups_self, Int.add_zero, w64_i (by omega) (by omega), ups_self]
theorem lCm_0 {e : Nat} {w : Nat → Int} (hL : LT w) (h : lq w) (hz : ∀ t : Nat, t < 20 → w (1340 + 20 * e + t) = 0) : ∀ (k t : Nat), (t : Int) + k ≤ w 1543 → lCm e k t w = w
  | 0, _, _ => rfl
  | k + 1, t, ht => by
    have f := hL.2 t (by omega)
    unfold lCm
    rw [hz t f.1, Int.zero_mul, show w64 0 = 0 from rfl, wOw_0 h f.2.2.2.1 f.2.2.2.2.1]
    exact lCm_0 hL h hz k (t + 1) (by omega)
-- an option
def sAk (w : Nat → Int) (e a : Nat) : Int := Int.tdiv (w (1240 + 10 * e + a)) (w (1080 + e))
def lAk (w : Nat → Int) (e : Nat) : Nat → Nat → Int → Int
  | 0, _, x => x
  | k + 1, a, x => lAk w e k (a + 1) (w64 (x + sAk w e a))
def sGo (w : Nat → Int) (e : Nat) (A : Int) (a : Nat) : Int := if A ≤ w (1090 + e) then sAk w e a else Int.tdiv (w64 (sAk w e a * w (1090 + e))) A
def wO2 (w : Nat → Int) (a s : Nat) (g : Int) : Nat → Int := ups (ups w (100 + 4 * a + s) (w64 (w (100 + 4 * a + s) + g))) (192 + s) (w64 (w (192 + s) + g))
def wOq (w : Nat → Int) (e s : Nat) (A : Int) (a : Nat) : Nat → Int := wCr (wO2 w a s (sGo w e A a)) a s (w64 (w64 (w (1140 + 10 * e + a) - w64 (w (1080 + e) * sGo w e A a)) * w (1070 + e)))
def lOp (e s : Nat) (A : Int) : Nat → Nat → (Nat → Int) → (Nat → Int)
  | 0, _, w => w
  | k + 1, a, w => lOp e s A k (a + 1) (wOq w e s A a)
theorem wO2_ne {w : Nat → Int} {a s : Nat} {g : Int} (ha : a < 10) (hs : s < 4) {j : Nat} (h : j < 100 ∨ (140 ≤ j ∧ j < 192) ∨ 196 ≤ j) : wO2 w a s g j = w j := by
  unfold wO2; rw [ups_ne (by omega), ups_ne (by omega)]
theorem wOq_ne {w : Nat → Int} {e s a : Nat} {A : Int} (ha : a < 10) (hs : s < 4) {j : Nat} (h : j < 30 ∨ (40 ≤ j ∧ j < 100) ∨ (140 ≤ j ∧ j < 192) ∨ 196 ≤ j) : wOq w e s A a j = w j := by
  unfold wOq; rw [wCr_ne (by omega), wO2_ne ha hs (by omega)]
theorem c_ask {M : xM} {w : Nat → Int} (hR : R M w) {e a : Nat} (he : e < 10) (ha : a < 10) (hb : 1 ≤ w (1080 + e)) : fX4_askedBy (155 + 4 * e) (a : Int) M = some (.inl (sAk w e a), M) := by
  unfold fX4_askedBy fX4_electedOf
  rw [hR.eb he, if_neg (by omega), if_neg (by omega), if_neg (by omega), xix_t (by omega) (by omega), xr_ele e (by omega), Int.toNat_natCast, hR.eele he ha]
  show xb (some (.inl _, M)) _ = _
  rw [xb_l, hR.eb he, xnz_t (by omega)]; rfl
theorem c_lAk {M : xM} {w : Nat → Int} (hR : R M w) (hC : IC w) {e : Nat} (he : e < 10) (hb : 1 ≤ w (1080 + e)) : ∀ (k a n : Nat) (x : Int), (a : Int) + k = w 1540 → k < n → fX3_payOption_5 399 (155 + 4 * e) n x (a : Int) M = fX3_payOption_35 399 (155 + 4 * e) (lAk w e k a x) xN 0 M
  | _, _, 0, _, _, hn => absurd hn (Nat.not_lt_zero _)
  | 0, a, n + 1, x, ha, _ => by
    rw [fX3_payOption_5, xr_399_0, if_pos (by rw [hR.nA]; omega)]; rfl
  | k + 1, a, n + 1, x, ha, hn => by
    have c0 := hC.1
    rw [fX3_payOption_5, xr_399_0, if_neg (by rw [hR.nA]; omega), c_ask hR he (by omega) hb, xb_l, xlet_b, w32_s (by omega), c_lAk hR hC he hb k (a + 1) n _ (by omega) (by omega)]; rfl
theorem m_lAk {M : xM} (hC : IC (M 401)) {e : Nat} (he : e < 10) (hb : 1 ≤ M 401 (1080 + e)) (s : Int) : ∀ (k a n : Nat) (x : Int), (a : Int) + k = M 401 1540 → k < n → fX12_option_29 400 (e : Int) s (M 401 (1080 + e)) n x (a : Int) M = fX12_option_76 400 (e : Int) s (M 401 (1080 + e)) (lAk (M 401) e k a x) xN 0 M
  | _, _, 0, _, _, hn => absurd hn (Nat.not_lt_zero _)
  | 0, a, n + 1, x, ha, _ => by
    rw [fX12_option_29, xr_400_0, if_pos (by omega)]; rfl
  | k + 1, a, n + 1, x, ha, hn => by
    have c0 := hC.1
    have ih := fun x => m_lAk hC he hb s k (a + 1) n x (by omega) (by omega)
    rw [fX12_option_29, xr_400_0, if_neg (by omega), xnz_t (by omega)]
    simp (disch := omega) only [w32_i, xix_t, tn_add, tn_10, Int.toNat_natCast, Int.reduceToNat, xlet_b]
    rw [show (a : Int) + 1 = ((a + 1 : Nat) : Int) by omega, ih]; rfl
theorem sGo_e {w w' : Nat → Int} {e a : Nat} {A : Int} (h1 : w' (1240 + 10 * e + a) = w (1240 + 10 * e + a)) (h2 : w' (1080 + e) = w (1080 + e)) (h3 : w' (1090 + e) = w (1090 + e)) : sGo w' e A a = sGo w e A a := by
  unfold sGo sAk; rw [h1, h2, h3]
theorem IE.s4 {w : Nat → Int} (h : IE w) (hC : IC w) : ∀ e : Nat, e < 10 → w (1120 + e) = 1 → (w (1060 + e)).toNat < 4 := h.sec4 hC
theorem c_oq {M : xM} {w T : Nat → Int} (hS : SS M w T) (hP : PF w) (h4 : ∀ e : Nat, e < 10 → w (1120 + e) = 1 → (w (1060 + e)).toNat < 4) {e s a : Nat} (he : e < 10) (hs : s < 4) (ha : a < 10) (hes : w (1060 + e) = (s : Int)) (hb : 1 ≤ w (1080 + e)) (A : Int) (rc' : Int → xM → xO) : ∃ M', fX3_payOption_83 rc' 399 (155 + 4 * e) A (a : Int) (sGo w e A a) M = rc' ((a + 1 : Nat) : Int) M' ∧ SS M' (wOq w e s A a) T ∧ fz M M' := by
  obtain ⟨hR, hV, hT⟩ := id hS
  have hnp := np_le w 10
  generalize hg : sGo w e A a = g
  have r1 : R (xup (xup M (13 + 4 * a) s (w64 (w (100 + 4 * a + s) + g))) (15 + 4 * a) (4 * np w 10 + s) (w64 (M (15 + 4 * a) (4 * np w 10 + s) + g))) (ups w (100 + 4 * a + s) (w64 (w (100 + 4 * a + s) + g))) := (hR.held_up ha hs).cls1 (frc_mov a (by omega) _ (by omega))
  have v1 : MV (xup (xup M (13 + 4 * a) s (w64 (w (100 + 4 * a + s) + g))) (15 + 4 * a) (4 * np w 10 + s) (w64 (M (15 + 4 * a) (4 * np w 10 + s) + g))) (ups w (100 + 4 * a + s) (w64 (w (100 + 4 * a + s) + g))) := by
    have := (hV.cell (c := 13 + 4 * a) (k := s) (v := w64 (w (100 + 4 * a + s) + g)) (by omega) (by omega) (by omega)).move ha hs (c := g) h4
    rw [xup_c (by omega)] at this; exact this
  have r2 := r1.sout_up hs (v := w64 (w (192 + s) + g))
  have v2 : MV (xup (xup (xup M (13 + 4 * a) s (w64 (w (100 + 4 * a + s) + g))) (15 + 4 * a) (4 * np w 10 + s) (w64 (M (15 + 4 * a) (4 * np w 10 + s) + g))) (56 + s) 3 (w64 (w (192 + s) + g))) (wO2 w a s g) := v1.up (by omega) (by omega) (by omega) (by omega) (by omega) (by omega) (by omega)
  have hS2 : SS (xup (xup (xup M (13 + 4 * a) s (w64 (w (100 + 4 * a + s) + g))) (15 + 4 * a) (4 * np w 10 + s) (w64 (M (15 + 4 * a) (4 * np w 10 + s) + g))) (56 + s) 3 (w64 (w (192 + s) + g))) (wO2 w a s g) T := ⟨r2, v2, ((hT.c (by omega)).c (by omega)).c (by omega)⟩
  have hz : fz M (xup (xup (xup M (13 + 4 * a) s (w64 (w (100 + 4 * a + s) + g))) (15 + 4 * a) (4 * np w 10 + s) (w64 (M (15 + 4 * a) (4 * np w 10 + s) + g))) (56 + s) 3 (w64 (w (192 + s) + g))) := (((fz.refl M).x (by omega)).x (by omega)).x (by omega)
  obtain ⟨M1, a1, a2, a3⟩ := c_plt hS2 (hP.fr (fun j hj => wO2_ne ha hs (by omega))) ha hs (w64 (w64 (w (1140 + 10 * e + a) - w64 (w (1080 + e) * g)) * w (1070 + e)))
  refine ⟨M1, ?_, by unfold wOq; rw [hg]; exact a2, hz.trans a3⟩
  unfold fX3_payOption_83
  rw [xr_399_0, c_acc (by omega), xb_l, Int.toNat_natCast, hR.esec he, hes, hV.1, c_move ha hs (by omega), xb_l, hR.held ha hs]
  have e1 : ∀ c k, c ≠ 13 + 4 * a → c ≠ 15 + 4 * a → (xup (xup M (13 + 4 * a) s (w64 (w (100 + 4 * a + s) + g))) (15 + 4 * a) (4 * np w 10 + s) (w64 (M (15 + 4 * a) (4 * np w 10 + s) + g))) c k = M c k := fun c k h1 h2 => by rw [xup_c h2, xup_c h1]
  rw [e1 (155 + 4 * e) 1 (by omega) (by omega), hR.esec he, hes, c_sec (by omega), xb_l, Int.toNat_natCast, e1 (56 + s) 3 (by omega) (by omega), hR.sout hs, xput_b, c_ent r2 he ha, xb_l, r2.esec he, r2.ea he, r2.eb he]
  simp (disch := omega) only [ups_ne]
  rw [hes, Int.mul_comm (w (1070 + e)), a1, xb_l, w32_s (by omega)]
theorem c_lOp {T : Nat → Int} {e s : Nat} (he : e < 10) (hs : s < 4) (A : Int) : ∀ (k a n : Nat) (M : xM) (w : Nat → Int), (a : Int) + k = w 1540 → k < n → SS M w T → PF w → (∀ e : Nat, e < 10 → w (1120 + e) = 1 → (w (1060 + e)).toNat < 4) → w (1060 + e) = (s : Int) → 1 ≤ w (1080 + e) → 0 ≤ w (1090 + e) → ∃ M', fX3_payOption_35 399 (155 + 4 * e) A n (a : Int) M = some (.inl 0, M') ∧ SS M' (lOp e s A k a w) T ∧ fz M M'
  | _, _, 0, _, _, _, hn, _, _, _, _, _, _ => absurd hn (Nat.not_lt_zero _)
  | 0, a, n + 1, M, w, ha, _, hS, hP, h4, hes, hb, hc => by
    refine ⟨M, ?_, hS, fz.refl M⟩
    rw [fX3_payOption_35, xr_399_0, if_pos (by rw [hS.1.nA]; omega)]; rfl
  | k + 1, a, n + 1, M, w, ha, hn, hS, hP, h4, hes, hb, hc => by
    have c0 := hP.1.1
    have ha4 : a < 10 := by omega
    have ne := fun (j : Nat) hj => wOq_ne (w := w) (e := e) (s := s) (a := a) (A := A) ha4 hs (j := j) hj
    obtain ⟨M1, a1, a2, a3⟩ := c_oq hS hP h4 he hs ha4 hes hb A (fX3_payOption_35 399 (155 + 4 * e) A n)
    obtain ⟨M2, b1, b2, b3⟩ := c_lOp he hs A k (a + 1) n M1 (wOq w e s A a) (by rw [ne 1540 (by omega)]; omega) (by omega) a2 (hP.fr (fun j _ => ne j (by omega))) (fun x hx hn => by rw [ne _ (by omega)] at hn; rw [ne _ (by omega)]; exact h4 x hx hn) (by rw [ne _ (by omega)]; exact hes) (by rw [ne _ (by omega)]; exact hb) (by rw [ne _ (by omega)]; exact hc)
    refine ⟨M2, ?_, b2, a3.trans b3⟩
    rw [fX3_payOption_35, xr_399_0, if_neg (by rw [hS.1.nA]; omega), c_ask hS.1 he ha4 hb, xb_l, hS.1.ecap he, ← b1, ← a1]
    unfold sGo
    by_cases z : A ≤ w (1090 + e)
    · rw [if_pos z, if_pos z]
    · rw [if_neg z, if_neg z, if_neg (by omega), xnz_t (by omega), xlet_b]
theorem m_oq {M : xM} {w T : Nat → Int} {h : Int} (hP : PF w) {e s a : Nat} (he : e < 10) (hs : s < 4) (ha : a < 10) (A : Int) (rc' : Int → xM → xO) : fX12_option_148 rc' 400 (e : Int) (s : Int) (w (1080 + e)) A (a : Int) (sGo w e A a) (st M w T h) = rc' ((a + 1 : Nat) : Int) (st M (wOq w e s A a) T h) := by
  unfold fX12_option_148 wOq
  generalize sGo w e A a = g
  simp (disch := omega) only [w32_i, xix_t, xr_400_0, tn_add, tn_4, tn_10, Int.toNat_natCast, Int.reduceToNat, xput_b, st_w, st_401, ups_ne]
  rw [show ups (ups w (100 + 4 * a + s) (w64 (w (100 + 4 * a + s) + g))) (192 + s) (w64 (w (192 + s) + g)) = wO2 w a s g from rfl, m_cr (hP.fr (fun j hj => wO2_ne ha hs (by omega))) ha hs, xb_l, show (a : Int) + 1 = ((a + 1 : Nat) : Int) by omega]
theorem m_lOp {M : xM} {T : Nat → Int} {h : Int} {e s : Nat} (he : e < 10) (hs : s < 4) (A b : Int) : ∀ (k a n : Nat) (w : Nat → Int), (a : Int) + k = w 1540 → k < n → PF w → w (1080 + e) = b → 1 ≤ b → 0 ≤ w (1090 + e) → fX12_option_76 400 (e : Int) (s : Int) b A n (a : Int) (st M w T h) = some (.inl 0, st M (lOp e s A k a w) T h)
  | _, _, 0, _, _, hn, _, _, _, _ => absurd hn (Nat.not_lt_zero _)
  | 0, a, n + 1, w, ha, _, hP, hb, hb1, hc => by
    rw [fX12_option_76, xr_400_0, st_401, if_pos (by omega)]; rfl
  | k + 1, a, n + 1, w, ha, hn, hP, hb, hb1, hc => by
    have c0 := hP.1.1
    have ha4 : a < 10 := by omega
    have ne := fun (j : Nat) hj => wOq_ne (w := w) (e := e) (s := s) (a := a) (A := A) ha4 hs (j := j) hj
    have ih := m_lOp (M := M) (T := T) (h := h) he hs A b k (a + 1) n (wOq w e s A a) (by rw [ne 1540 (by omega)]; omega) (by omega) (hP.fr (fun j _ => ne j (by omega))) (by rw [ne _ (by omega)]; exact hb) hb1 (by rw [ne _ (by omega)]; exact hc)
    have q := m_oq (M := M) (T := T) (h := h) hP he hs ha4 A (fX12_option_76 400 (e : Int) (s : Int) b A n)
    rw [hb, ih] at q
    rw [fX12_option_76, xr_400_0, st_401, if_neg (by omega), xnz_t (by omega)]
    simp (disch := omega) only [w32_i, xix_t, tn_add, tn_10, Int.toNat_natCast, Int.reduceToNat, xlet_b]
    unfold lOp
    rw [← q]
    unfold sGo sAk
    rw [hb]
    by_cases z : A ≤ w (1090 + e)
    · rw [if_pos z, if_pos z]
    · rw [if_neg z, if_neg z, xnz_t (by omega)]
