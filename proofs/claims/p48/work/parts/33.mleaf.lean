theorem xput_b {c k : Nat} {v : Int} {M : xM} {K : xM → xO} : xput c k v M K = K (xup M c k v) := rfl
/-- the memory with the model's numbers w, what it told T, its word on what was thrown h -/
def st (M : xM) (w T : Nat → Int) (h : Int) : xM := fun c => if c = 401 then w else if c = 403 then T else if c = 400 then (fun k => if k = 7 then h else M 400 k) else M c
theorem st_401 {M : xM} {w T : Nat → Int} {h : Int} : st M w T h 401 = w := rfl
theorem st_403 {M : xM} {w T : Nat → Int} {h : Int} : st M w T h 403 = T := rfl
theorem st_7 {M : xM} {w T : Nat → Int} {h : Int} : st M w T h 400 7 = h := rfl
theorem st_k {M : xM} {w T : Nat → Int} {h : Int} {k : Nat} (hk : k ≠ 7) : st M w T h 400 k = M 400 k := by
  show (if k = 7 then h else M 400 k) = _
  rw [if_neg hk]
theorem st_c {M : xM} {w T : Nat → Int} {h : Int} {c : Nat} (h0 : c ≠ 400) (h1 : c ≠ 401) (h3 : c ≠ 403) : st M w T h c = M c := by
  unfold st; rw [if_neg h1, if_neg h3, if_neg h0]
theorem st_id (M : xM) : st M (M 401) (M 403) (M 400 7) = M := by
  funext c k; unfold st
  by_cases h1 : c = 401
  · rw [if_pos h1, h1]
  · rw [if_neg h1]
    by_cases h3 : c = 403
    · rw [if_pos h3, h3]
    · rw [if_neg h3]
      by_cases h0 : c = 400
      · rw [if_pos h0, h0]
        show (if k = 7 then M 400 7 else M 400 k) = _
        by_cases h7 : k = 7
        · rw [if_pos h7, h7]
        · rw [if_neg h7]
      · rw [if_neg h0]
theorem st_w {M : xM} {w T : Nat → Int} {h : Int} {j : Nat} {v : Int} : xup (st M w T h) 401 j v = st M (ups w j v) T h := by
  funext c k
  by_cases h1 : c = 401
  · subst h1; rw [st_401]; unfold xup ups; simp [st_401]
  · rw [xup_c h1]; unfold st; rw [if_neg h1, if_neg h1]
theorem st_t {M : xM} {w T : Nat → Int} {h : Int} {j : Nat} {v : Int} : xup (st M w T h) 403 j v = st M w (ups T j v) h := by
  funext c k
  by_cases h1 : c = 403
  · subst h1; rw [st_403]; unfold xup ups; simp [st_403]
  · rw [xup_c h1]; unfold st
    by_cases h2 : c = 401
    · rw [if_pos h2, if_pos h2]
    · rw [if_neg h2, if_neg h1, if_neg h2, if_neg h1]
theorem st_h {M : xM} {w T : Nat → Int} {h v : Int} : xup (st M w T h) 400 7 v = st M w T v := by
  funext c k
  by_cases h1 : c = 400
  · subst h1
    by_cases h2 : k = 7
    · subst h2; rw [xup_same, st_7]
    · rw [xup_k h2, st_k h2, st_k h2]
  · rw [xup_c h1]; unfold st; rw [if_neg h1, if_neg h1]
/-- the model's counts are in their ranges -/
def IC (w : Nat → Int) : Prop := (0 ≤ w 1540 ∧ w 1540 ≤ 10) ∧ (0 ≤ w 1541 ∧ w 1541 ≤ 4) ∧ (0 ≤ w 1542 ∧ w 1542 ≤ 40) ∧ (0 ≤ w 1543 ∧ w 1543 ≤ 20) ∧ (0 ≤ w 1544 ∧ w 1544 ≤ 10) ∧ (0 ≤ w 1545 ∧ w 1545 ≤ 20) ∧ (0 ≤ w 1546 ∧ w 1546 ≤ 10) ∧ (0 ≤ w 1547 ∧ w 1547 ≤ 2000)
theorem m_in (x lo hi : Int) (M : xM) : fX12_in 400 x lo hi M = some (.inl (bi (decide (lo ≤ x) && decide (x ≤ hi))), M) := by
  unfold fX12_in
  by_cases h1 : x < lo
  · rw [if_pos h1, decide_eq_false (by omega)]; rfl
  · rw [if_neg h1, decide_eq_true (by omega)]
    by_cases h2 : hi < x
    · rw [if_pos h2, decide_eq_false (by omega)]; rfl
    · rw [if_neg h2, decide_eq_true (by omega)]; rfl
def inb (x n : Int) : Bool := decide (0 ≤ x) && decide (x < n)
theorem inb_t {x n : Int} (h : inb x n = true) : ∃ a : Nat, x = (a : Int) ∧ (a : Int) < n := by
  simp only [inb, Bool.and_eq_true, decide_eq_true_eq] at h
  exact ⟨x.toNat, by omega, by omega⟩
theorem inb_f {x n : Int} (h : inb x n = false) : x < 0 ∨ n ≤ x := by
  simp only [inb, Bool.and_eq_false_iff, decide_eq_false_iff_not] at h; omega
theorem m_inb (x n : Int) (M : xM) (h : 0 ≤ n ∧ n ≤ 1000) : fX12_in 400 x 0 (w64 (n - 1)) M = some (.inl (bi (inb x n)), M) := by
  rw [m_in, w64_i (by omega) (by omega)]
  have : decide (x ≤ n - 1) = decide (x < n) := by
    by_cases q : x < n
    · rw [decide_eq_true q, decide_eq_true (by omega)]
    · rw [decide_eq_false q, decide_eq_false (by omega)]
  rw [this]; rfl
theorem m_isA (x : Int) (M : xM) (h : IC (M 401)) : fX12_isAccount 400 x M = some (.inl (bi (inb x (M 401 1540))), M) := by
  unfold fX12_isAccount; rw [xr_400_0, m_inb _ _ _ (by have := h.1; omega), xb_l]; rfl
theorem m_isS (x : Int) (M : xM) (h : IC (M 401)) : fX12_isSecurity 400 x M = some (.inl (bi (inb x (M 401 1541))), M) := by
  unfold fX12_isSecurity; rw [xr_400_0, m_inb _ _ _ (by have := h.2.1; omega), xb_l]; rfl
theorem m_isI (x : Int) (M : xM) (h : IC (M 401)) : fX12_isInstruction 400 x M = some (.inl (bi (inb x (M 401 1542))), M) := by
  unfold fX12_isInstruction; rw [xr_400_0, m_inb _ _ _ (by have := h.2.2.1; omega), xb_l]; rfl
theorem m_isT (x : Int) (M : xM) (h : IC (M 401)) : fX12_isTrade 400 x M = some (.inl (bi (inb x (M 401 1543))), M) := by
  unfold fX12_isTrade; rw [xr_400_0, m_inb _ _ _ (by have := h.2.2.2.1; omega), xb_l]; rfl
theorem m_isE (x : Int) (M : xM) (h : IC (M 401)) : fX12_isEvent 400 x M = some (.inl (bi (inb x (M 401 1546))), M) := by
  unfold fX12_isEvent; rw [xr_400_0, m_inb _ _ _ (by have := h.2.2.2.2.2.2.1; omega), xb_l]; rfl
theorem m_isL (x : Int) (M : xM) (h : IC (M 401)) : fX12_isLoan 400 x M = some (.inl (bi (inb x (M 401 1545))), M) := by
  unfold fX12_isLoan; rw [xr_400_0, m_inb _ _ _ (by have := h.2.2.2.2.2.1; omega), xb_l]; rfl
theorem m_free {a s : Nat} (ha : a < 10) (hs : s < 4) (M : xM) : fX12_freeOf 400 (a : Int) (s : Int) M = some (.inl (sFree (M 401) a s), M) := by
  unfold fX12_freeOf
  simp (disch := omega) only [w32_i, xix_t, xr_400_0, tn_add, tn_4, Int.toNat_natCast, Int.reduceToNat]; rfl
theorem m_fc {a : Nat} (ha : a < 10) (M : xM) : fX12_freeCash 400 (a : Int) M = some (.inl (sFC (M 401) a), M) := by
  unfold fX12_freeCash
  simp (disch := omega) only [w32_i, xix_t, xr_400_0, tn_add, tn_4, Int.toNat_natCast, Int.reduceToNat]; rfl
theorem m_half (x : Int) (hx : R64 x) (M : xM) : fX12_half 400 x M = some (.inl (x / 2), M) := by
  unfold fX12_half fX12_half_16
  have e := Int.tdiv_eq_ediv (a := x) (b := 2)
  obtain ⟨h1, h2⟩ := hx
  by_cases h : 0 ≤ x
  · rw [if_pos h, Int.tdiv_eq_ediv_of_nonneg h]; rfl
  · rw [if_neg h]
    by_cases q : x % 2 = 0
    · have e2 : x.tdiv 2 = x / 2 := by
        rw [e, if_pos (Or.inr (Int.dvd_of_emod_eq_zero q)), Int.add_zero]
      rw [e2, if_pos (by omega)]; rfl
    · have e2 : x.tdiv 2 = x / 2 + 1 := by
        rw [e, if_neg (fun z => ?_)]; rfl
        rcases z with z | z
        · exact h z
        · exact q (Int.emod_eq_zero_of_dvd z)
      rw [e2, if_neg (by omega), w64_i (by omega) (by omega)]
      have : x / 2 + 1 - 1 = x / 2 := by omega
      rw [this]; rfl
theorem sWor_r (w : Nat → Int) (a : Nat) : ∀ (k i : Nat) (x : Int), R64 x → R64 (sWor w a k i x)
  | 0, _, _, h => h
  | k + 1, i, _, _ => sWor_r w a k (i + 1) _ (w64_r _)
theorem m_lim_l {M : xM} {a : Nat} (ha : a < 10) (h0 : 0 ≤ M 401 1541) (h1 : M 401 1541 ≤ 4) : ∀ (k i : Nat) (x : Int) (n : Nat), R64 x → i + k = (M 401 1541).toNat → k < n → fX12_limitOf_5 400 (a : Int) n x (i : Int) M = some (.inl (w64 (M 401 (50 + a) + sWor (M 401) a k i x / 2)), M)
  | _, _, _, 0, _, _, hn => absurd hn (Nat.not_lt_zero _)
  | 0, i, x, n + 1, hx, hi, _ => by
    rw [fX12_limitOf_5, xr_400_0, if_pos (by omega), m_half x hx, xb_l]
    simp (disch := omega) only [w32_i, xix_t, tn_add, Int.toNat_natCast, Int.reduceToNat]; rfl
  | k + 1, i, x, n + 1, hx, hi, hn => by
    rw [fX12_limitOf_5, xr_400_0, if_neg (by omega), m_free ha (by omega), xb_l]
    simp (disch := omega) only [w32_i, xix_t, tn_add, Int.toNat_natCast, Int.reduceToNat]
    rw [xlet_b, show ((i : Int) + 1) = ((i + 1 : Nat) : Int) from by omega, m_lim_l ha h0 h1 k (i + 1) _ n (w64_r _) (by omega) (by omega)]; rfl
theorem m_lim {M : xM} {a : Nat} (ha : a < 10) (h0 : 0 ≤ M 401 1541) (h1 : M 401 1541 ≤ 4) : fX12_limitOf 400 (a : Int) M = some (.inl (sLim (M 401) a), M) := by
  unfold fX12_limitOf
  exact m_lim_l ha h0 h1 (M 401 1541).toNat 0 0 xN (by decide) (by omega) (by unfold xN; omega)
theorem xand_bi (p q : Bool) : xand (bi p) (bi q) = bi (p && q) := by cases p <;> cases q <;> decide
theorem xor_bi (p q : Bool) : xor32 (bi p) (bi q) = bi (p || q) := by cases p <;> cases q <;> decide
theorem m_snd_l {M : xM} {a : Nat} (ha : a < 10) (h0 : 0 ≤ M 401 1541) (h1 : M 401 1541 ≤ 4) : ∀ (k i : Nat) (b : Bool) (n : Nat), i + k = (M 401 1541).toNat → k < n → fX12_sound_24 400 (a : Int) n (bi b) (i : Int) M = some (.inl (bi (b && sAll (M 401) a k i)), M)
  | _, _, _, 0, _, hn => absurd hn (Nat.not_lt_zero _)
  | 0, i, b, n + 1, hi, _ => by
    rw [fX12_sound_24, xr_400_0, if_pos (by omega)]
    simp only [sAll, Bool.and_true]; rfl
  | k + 1, i, b, n + 1, hi, hn => by
    rw [fX12_sound_24, xr_400_0, if_neg (by omega), m_free ha (by omega), xb_l]
    unfold fX12_sound_55
    by_cases q : sFree (M 401) a i < 0
    · rw [if_pos q, w32_s (by omega), show (0 : Int) = bi false from rfl, xand_bi, m_snd_l ha h0 h1 k (i + 1) _ n (by omega) (by omega)]
      simp only [sAll, decide_eq_false (show ¬ 0 ≤ sFree (M 401) a i by omega), Bool.and_false, Bool.false_and]
    · rw [if_neg q, w32_s (by omega), show (1 : Int) = bi true from rfl, xand_bi, m_snd_l ha h0 h1 k (i + 1) _ n (by omega) (by omega)]
      simp only [sAll, decide_eq_true (show 0 ≤ sFree (M 401) a i by omega), Bool.and_true, Bool.true_and]
theorem m_snd {M : xM} {a : Nat} (ha : a < 10) (h0 : 0 ≤ M 401 1541) (h1 : M 401 1541 ≤ 4) : fX12_sound 400 (a : Int) M = some (.inl (bi (sSnd (M 401) a)), M) := by
  unfold fX12_sound
  rw [m_fc ha, xb_l, m_lim ha h0 h1, xb_l]
  unfold fX12_sound_21
  by_cases q : w64 (sFC (M 401) a + sLim (M 401) a) < 0
  · rw [if_pos q, show fX12_sound_24 400 (a : Int) xN 0 0 M = fX12_sound_24 400 (a : Int) xN (bi false) ((0 : Nat) : Int) M from rfl, m_snd_l ha h0 h1 (M 401 1541).toNat 0 false xN (by omega) (by unfold xN; omega)]
    unfold sSnd; rw [decide_eq_false (by omega)]
  · rw [if_neg q, show fX12_sound_24 400 (a : Int) xN 1 0 M = fX12_sound_24 400 (a : Int) xN (bi true) ((0 : Nat) : Int) M from rfl, m_snd_l ha h0 h1 (M 401 1541).toNat 0 true xN (by omega) (by unfold xN; omega)]
    unfold sSnd; rw [decide_eq_true (by omega)]
theorem m_holds (x : Int) (M : xM) (w T : Nat → Int) (h : Int) : fX12_holds 400 x (st M w T h) = some (.inl (bi (decide (0 < x))), st M w T x) := by
  unfold fX12_holds
  rw [xput_b, st_h]
  by_cases q : x ≤ 0
  · rw [if_pos q, decide_eq_false (by omega)]; rfl
  · rw [if_neg q, decide_eq_true (by omega)]; rfl
