theorem w32_s {i : Nat} (h : i < 2000000) : w32 ((i : Int) + 1) = ((i + 1 : Nat) : Int) := by rw [w32_i (by omega) (by omega)]; omega
theorem xlet_b {v : Int} {K : Int → xO} : xlet v K = K v := rfl
theorem c_acc {a : Nat} (h : a ≤ 10) (M : xM) : fX1_account 3 (a : Int) M = some (.inl ((12 + 4 * a : Nat) : Int), M) := by
  unfold fX1_account
  rw [if_neg (by omega), if_pos (by omega), xix_t (by omega) (by omega), xr_3_1, Int.toNat_natCast, xr_accs a (by omega)]; rfl
theorem c_sec {a : Nat} (h : a ≤ 4) (M : xM) : fX1_security 3 (a : Int) M = some (.inl ((56 + a : Nat) : Int), M) := by
  unfold fX1_security
  rw [if_neg (by omega), if_pos (by omega), xix_t (by omega) (by omega), xr_3_2, Int.toNat_natCast, xr_secs a (by omega)]; rfl
theorem c_ins {a : Nat} (h : a ≤ 40) (M : xM) : fX1_instruction 3 (a : Int) M = some (.inl ((61 + a : Nat) : Int), M) := by
  unfold fX1_instruction
  rw [if_neg (by omega), if_pos (by omega), xix_t (by omega) (by omega), xr_3_3, Int.toNat_natCast, xr_inss a (by omega)]; rfl
theorem c_trd {a : Nat} (h : a ≤ 20) (M : xM) : fX1_trade 3 (a : Int) M = some (.inl ((102 + a : Nat) : Int), M) := by
  unfold fX1_trade
  rw [if_neg (by omega), if_pos (by omega), xix_t (by omega) (by omega), xr_3_4, Int.toNat_natCast, xr_trds a (by omega)]; rfl
theorem c_lnk {a : Nat} (h : a ≤ 10) (M : xM) : fX1_linkAt 3 (a : Int) M = some (.inl ((123 + a : Nat) : Int), M) := by
  unfold fX1_linkAt
  rw [if_neg (by omega), if_pos (by omega), xix_t (by omega) (by omega), xr_3_5, Int.toNat_natCast, xr_lnks a (by omega)]; rfl
theorem c_lon {a : Nat} (h : a ≤ 20) (M : xM) : fX1_loanAt 3 (a : Int) M = some (.inl ((134 + a : Nat) : Int), M) := by
  unfold fX1_loanAt
  rw [if_neg (by omega), if_pos (by omega), xix_t (by omega) (by omega), xr_3_6, Int.toNat_natCast, xr_lons a (by omega)]; rfl
theorem c_evt {a : Nat} (h : a ≤ 10) (M : xM) : fX1_event 3 (a : Int) M = some (.inl ((155 + 4 * a : Nat) : Int), M) := by
  unfold fX1_event
  rw [if_neg (by omega), if_pos (by omega), xix_t (by omega) (by omega), xr_3_7, Int.toNat_natCast, xr_evts a (by omega)]; rfl
def sFree (w : Nat → Int) (a s : Nat) : Int := w64 (w (100 + 4 * a + s) - w (140 + 4 * a + s))
def sFC (w : Nat → Int) (a : Nat) : Int := w64 (w (30 + a) - w (40 + a))
def sWor (w : Nat → Int) (a : Nat) : Nat → Nat → Int → Int
  | 0, _, x => x
  | k + 1, i, x => sWor w a k (i + 1) (w64 (x + w64 (sFree w a i * w (184 + i))))
def sLim (w : Nat → Int) (a : Nat) : Int := w64 (w (50 + a) + sWor w a (w 1541).toNat 0 0 / 2)
def sAll (w : Nat → Int) (a : Nat) : Nat → Nat → Bool
  | 0, _ => true
  | k + 1, i => decide (0 ≤ sFree w a i) && sAll w a k (i + 1)
def sSnd (w : Nat → Int) (a : Nat) : Bool := decide (0 ≤ w64 (sFC w a + sLim w a)) && sAll w a (w 1541).toNat 0
def bi (b : Bool) : Int := if b then 1 else 0
theorem c_held {M : xM} {w : Nat → Int} (hR : R M w) {a s : Nat} (ha : a < 10) (hs : s < 4) : fX0_heldOf (12 + 4 * a) (s : Int) M = some (.inl (w (100 + 4 * a + s)), M) := by
  unfold fX0_heldOf
  rw [if_neg (by omega), if_neg (by omega), xix_t (by omega) (by omega), xr_held a (by omega), Int.toNat_natCast, hR.held ha hs]; rfl
theorem c_blk {M : xM} {w : Nat → Int} (hR : R M w) {a s : Nat} (ha : a < 10) (hs : s < 4) : fX0_blockedOf (12 + 4 * a) (s : Int) M = some (.inl (w (140 + 4 * a + s)), M) := by
  unfold fX0_blockedOf
  rw [if_neg (by omega), if_neg (by omega), xix_t (by omega) (by omega), xr_blk a (by omega), Int.toNat_natCast, hR.blk ha hs]; rfl
theorem c_free {M : xM} {w : Nat → Int} (hR : R M w) {a s : Nat} (ha : a < 10) (hs : s < 4) : fX0_freeOf (12 + 4 * a) (s : Int) M = some (.inl (sFree w a s), M) := by
  unfold fX0_freeOf fX0_freeOf_27
  rw [if_neg (by omega), if_neg (by omega), if_neg (by omega), if_neg (by omega), xix_t (by omega) (by omega), xix_t (by omega) (by omega), xr_held a (by omega), xr_blk a (by omega), Int.toNat_natCast, hR.held ha hs, hR.blk ha hs]; rfl
theorem c_fc {M : xM} {w : Nat → Int} (hR : R M w) {a : Nat} (ha : a < 10) : fX0_freeCash (12 + 4 * a) M = some (.inl (sFC w a), M) := by
  unfold fX0_freeCash
  rw [hR.cash ha, hR.pled ha]; rfl
theorem c_setb {a s : Nat} (ha : a < 10) (hs : s < 4) (v : Int) (M : xM) : fX0_setBlocked (12 + 4 * a) (s : Int) v M = some (.inl 0, xup M (14 + 4 * a) s v) := by
  unfold fX0_setBlocked
  rw [if_neg (by omega), if_neg (by omega), xix_t (by omega) (by omega), xr_blk a (by omega), Int.toNat_natCast]; rfl
theorem c_shft {a s : Nat} (ha : a < 10) (hs : s < 4) (v : Int) (M : xM) : fX0_shift (12 + 4 * a) (s : Int) v M = some (.inl 0, xup M (13 + 4 * a) s (w64 (M (13 + 4 * a) s + v))) := by
  unfold fX0_shift
  rw [if_neg (by omega), if_neg (by omega), xix_t (by omega) (by omega), xix_t (by omega) (by omega), xr_held a (by omega), Int.toNat_natCast]; rfl
theorem c_move {a s p : Nat} (ha : a < 10) (hs : s < 4) (hp : p ≤ 10) (v : Int) (M : xM) : fX0_move (12 + 4 * a) (s : Int) v (p : Int) M = some (.inl 0, xup (xup M (13 + 4 * a) s (w64 (M (13 + 4 * a) s + v))) (15 + 4 * a) (4 * p + s) (w64 (M (15 + 4 * a) (4 * p + s) + v))) := by
  unfold fX0_move
  rw [c_shft ha hs, xb_l, xlet_b]
  rw [w32_i (x := (p : Int) * 4) (by omega) (by omega), w32_i (by omega) (by omega)]
  rw [if_neg (by omega), if_neg (by omega), xix_t (by omega) (by omega), xix_t (by omega) (by omega), xr_mov a (by omega)]
  have e : ((p : Int) * 4 + (s : Int)).toNat = 4 * p + s := by omega
  rw [e]
  unfold xput
  rw [xup_c (a := 15 + 4 * a) (by omega)]; rfl
theorem c_trt {M : xM} {w : Nat → Int} (hR : R M w) {c o : Nat} (hc : c < 3) (ho : o < 3) : fX1_treatyTax 3 (c : Int) (o : Int) M = some (.inl (w32 (w (196 + (3 * c + o)))), M) := by
  unfold fX1_treatyTax
  rw [xlet_b, w32_i (x := (c : Int) * 3) (by omega) (by omega), w32_i (by omega) (by omega), if_neg (by omega), if_neg (by omega), xix_t (by omega) (by omega), xr_3_8]
  have e : ((c : Int) * 3 + (o : Int)).toNat = 3 * c + o := by omega
  rw [e, hR.trty (by omega)]; rfl
theorem c_wor {M : xM} {w : Nat → Int} (hR : R M w) {s : Nat} (hs : s < 4) (x : Int) : fX1_worthOf 3 (s : Int) x M = some (.inl (w64 (x * w (184 + s))), M) := by
  unfold fX1_worthOf
  rw [c_sec (by omega), xb_l, Int.toNat_natCast, hR.price hs]; rfl
theorem c_lim_l {M : xM} {w : Nat → Int} (hR : R M w) {a : Nat} (ha : a < 10) (h0 : 0 ≤ w 1541) (h1 : w 1541 ≤ 4) : ∀ (k i : Nat) (x : Int) (n : Nat), i + k = (w 1541).toNat → k < n → fX1_limitOf_5 3 (12 + 4 * a) n x (i : Int) M = some (.inl (w64 (w (50 + a) + Int.tdiv (sWor w a k i x) 2)), M)
  | _, _, _, 0, _, hn => absurd hn (Nat.not_lt_zero _)
  | 0, i, x, n + 1, hi, _ => by
    rw [fX1_limitOf_5, if_pos (by rw [hR.nS]; omega), hR.line ha]; rfl
  | k + 1, i, x, n + 1, hi, hn => by
    rw [fX1_limitOf_5, if_neg (by rw [hR.nS]; omega), c_free hR ha (by omega), xb_l, c_sec (by omega), xb_l, Int.toNat_natCast, hR.price (by omega), xlet_b]
    rw [w32_s (by omega), c_lim_l hR ha h0 h1 k (i + 1) _ n (by omega) (by omega)]; rfl
theorem c_lim' {M : xM} {w : Nat → Int} (hR : R M w) {a : Nat} (ha : a < 10) (h0 : 0 ≤ w 1541) (h1 : w 1541 ≤ 4) : fX1_limitOf 3 (12 + 4 * a) M = some (.inl (w64 (w (50 + a) + Int.tdiv (sWor w a (w 1541).toNat 0 0) 2)), M) := by
  unfold fX1_limitOf
  exact c_lim_l hR ha h0 h1 (w 1541).toNat 0 0 xN (by omega) (by unfold xN; omega)
/-- the units of an account are no great numbers -/
def hb (w : Nat → Int) (a : Nat) : Prop := ∀ s : Nat, s < 4 → -1000000000000 ≤ w (100 + 4 * a + s) ∧ w (100 + 4 * a + s) ≤ 1000000000000 ∧ 0 ≤ w (140 + 4 * a + s) ∧ w (140 + 4 * a + s) ≤ 1000000000000 ∧ 0 ≤ w (184 + s) ∧ w (184 + s) ≤ 1000
theorem hb_free {w : Nat → Int} {a s : Nat} (h : hb w a) (hs : s < 4) : sFree w a s = w (100 + 4 * a + s) - w (140 + 4 * a + s) := by
  obtain ⟨h1, h2, h3, h4, -, -⟩ := h s hs
  exact w64_i (by omega) (by omega)
theorem sWor_pos {w : Nat → Int} {a : Nat} (h : hb w a) : ∀ (k i : Nat) (x : Int), i + k ≤ 4 → sAll w a k i = true → 0 ≤ x → x ≤ 2000000000000000 * i → 0 ≤ sWor w a k i x ∧ sWor w a k i x ≤ 8000000000000000
  | 0, i, x, hi, _, h0, h1 => ⟨h0, by show x ≤ _; omega⟩
  | k + 1, i, x, hi, hA, h0, h1 => by
    simp only [sAll, Bool.and_eq_true, decide_eq_true_eq] at hA
    obtain ⟨q1, q2, q3, q4, q5, q6⟩ := h i (by omega)
    have hf := hb_free h (s := i) (by omega)
    have f1 : 0 ≤ sFree w a i := hA.1
    have f2 : sFree w a i ≤ 1000000000000 := by rw [hf]; omega
    have m0 : 0 ≤ sFree w a i * w (184 + i) := Int.mul_nonneg f1 q5
    have m1 : sFree w a i * w (184 + i) ≤ 1000000000000 * 1000 := Int.mul_le_mul f2 q6 q5 (by omega)
    have e : w64 (x + w64 (sFree w a i * w (184 + i))) = x + sFree w a i * w (184 + i) := by rw [w64_i (x := sFree w a i * w (184 + i)) (by omega) (by omega), w64_i (by omega) (by omega)]
    have e2 : sWor w a (k + 1) i x = sWor w a k (i + 1) (x + sFree w a i * w (184 + i)) := by rw [← e]; rfl
    rw [e2]
    exact sWor_pos h k (i + 1) (x + sFree w a i * w (184 + i)) (by omega) hA.2 (by omega) (by omega)
theorem c_lim {M : xM} {w : Nat → Int} (hR : R M w) {a : Nat} (ha : a < 10) (h0 : 0 ≤ w 1541) (h1 : w 1541 ≤ 4) (hh : hb w a) (hA : sAll w a (w 1541).toNat 0 = true) : fX1_limitOf 3 (12 + 4 * a) M = some (.inl (sLim w a), M) := by
  rw [c_lim' hR ha h0 h1]
  unfold sLim
  rw [Int.tdiv_eq_ediv_of_nonneg (sWor_pos hh _ 0 0 (by omega) hA (by omega) (by omega)).1]
theorem c_firm_l {M : xM} {w : Nat → Int} (hR : R M w) {a : Nat} (ha : a < 10) (h0 : 0 ≤ w 1541) (h1 : w 1541 ≤ 4) (hh : hb w a) : ∀ (k i : Nat) (n : Nat), i + k = (w 1541).toNat → k < n → (sAll w a k i = true → sAll w a (w 1541).toNat 0 = true) → fX1_isFirm_8 3 (12 + 4 * a) n (i : Int) M = some (.inl (bi (decide (0 ≤ w64 (sFC w a + sLim w a)) && sAll w a k i)), M)
  | _, _, 0, _, hn, _ => absurd hn (Nat.not_lt_zero _)
  | 0, i, n + 1, hi, _, hA => by
    rw [fX1_isFirm_8, if_pos (by rw [hR.nS]; omega), c_fc hR ha, xb_l, c_lim hR ha h0 h1 hh (hA rfl), xb_l]
    by_cases q : w64 (sFC w a + sLim w a) < 0
    · rw [if_pos q, decide_eq_false (by omega)]; rfl
    · rw [if_neg q, decide_eq_true (by omega)]; rfl
  | k + 1, i, n + 1, hi, hn, hA => by
    rw [fX1_isFirm_8, if_neg (by rw [hR.nS]; omega), c_free hR ha (by omega), xb_l]
    by_cases q : 0 ≤ sFree w a i
    · rw [if_pos q, w32_s (by omega), c_firm_l hR ha h0 h1 hh k (i + 1) n (by omega) (by omega) (fun z => hA (by simp only [sAll, Bool.and_eq_true, decide_eq_true_eq]; exact ⟨q, z⟩))]
      simp only [sAll, decide_eq_true q, Bool.true_and]
    · rw [if_neg q]
      simp only [sAll, decide_eq_false q, Bool.false_and, Bool.and_false]; rfl
theorem c_firm {M : xM} {w : Nat → Int} (hR : R M w) {a : Nat} (ha : a < 10) (h0 : 0 ≤ w 1541) (h1 : w 1541 ≤ 4) (hh : hb w a) : fX1_isFirm 3 (a : Int) M = some (.inl (bi (sSnd w a)), M) := by
  unfold fX1_isFirm
  rw [c_acc (by omega), xb_l, Int.toNat_natCast, show fX1_isFirm_8 3 (12 + 4 * a) xN 0 M = fX1_isFirm_8 3 (12 + 4 * a) xN ((0 : Nat) : Int) M from rfl, c_firm_l hR ha h0 h1 hh (w 1541).toNat 0 xN (by omega) (by unfold xN; omega) id]; rfl
