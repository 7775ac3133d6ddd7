-- candidates: the class inserts them, the model selects them
def sRk (w : Nat → Int) (t : Nat) : Int := w (810 + t) + w (850 + t)
def sEl (w : Nat → Int) (t : Nat) : Bool := sDue w t && !sHu w t
/-- t comes ahead of u -/
def bf (w : Nat → Int) (t u : Nat) : Prop := sRk w u < sRk w t ∨ (sRk w t = sRk w u ∧ t < u)
/-- c lists what is eligible below n, m of them, in their order -/
def CS (w : Nat → Int) (n : Nat) (c : Nat → Nat) (m : Nat) : Prop := m ≤ n ∧ (∀ i, i < m → c i < n ∧ sEl w (c i) = true) ∧ (∀ i j, i < j → j < m → bf w (c i) (c j)) ∧ ∀ t, t < n → sEl w t = true → ∃ i, i < m ∧ c i = t
def cIn (c : Nat → Nat) (p t : Nat) : Nat → Nat := fun i => if i < p then c i else if i = p then t else c (i - 1)
theorem CS.ins {w : Nat → Int} {n m p : Nat} {c : Nat → Nat} (h : CS w n c m) (he : sEl w n = true) (hp : p ≤ m) (h1 : ∀ i, i < p → sRk w n ≤ sRk w (c i)) (h2 : p < m → sRk w (c p) < sRk w n) : CS w (n + 1) (cIn c p n) (m + 1) := by
  obtain ⟨a1, a2, a3, a4⟩ := h
  refine ⟨by omega, fun i hi => ?_, fun i j hij hj => ?_, fun t ht hel => ?_⟩
  · unfold cIn
    by_cases z : i < p
    · rw [if_pos z]; have := a2 i (by omega); exact ⟨by omega, this.2⟩
    · rw [if_neg z]
      by_cases y : i = p
      · rw [if_pos y]; exact ⟨by omega, he⟩
      · rw [if_neg y]; have := a2 (i - 1) (by omega); exact ⟨by omega, this.2⟩
  · unfold cIn
    by_cases z : j < p
    · rw [if_pos z, if_pos (show i < p by omega)]; exact a3 i j hij (by omega)
    · rw [if_neg z]
      by_cases y : j = p
      · rw [if_pos y, if_pos (show i < p by omega)]
        have k1 := h1 i (by omega)
        have k2 := (a2 i (by omega)).1
        unfold bf; omega
      · rw [if_neg y]
        have hpm : p < m := by omega
        by_cases x : i < p
        · rw [if_pos x]; exact a3 i (j - 1) (by omega) (by omega)
        · rw [if_neg x]
          by_cases v : i = p
          · rw [if_pos v]
            have k := h2 hpm
            by_cases u : p = j - 1
            · rw [← u]; exact Or.inl k
            · have := a3 p (j - 1) (by omega) (by omega)
              unfold bf at this ⊢; omega
          · rw [if_neg v]; exact a3 (i - 1) (j - 1) (by omega) (by omega)
  · by_cases z : t = n
    · exact ⟨p, by omega, by unfold cIn; rw [if_neg (by omega), if_pos rfl, z]⟩
    · obtain ⟨i, i1, i2⟩ := a4 t (by omega) hel
      by_cases y : i < p
      · exact ⟨i, by omega, by unfold cIn; rw [if_pos y]; exact i2⟩
      · exact ⟨i + 1, by omega, by unfold cIn; rw [if_neg (by omega), if_neg (by omega), show i + 1 - 1 = i by omega]; exact i2⟩
theorem CS.skip {w : Nat → Int} {n m : Nat} {c : Nat → Nat} (h : CS w n c m) (he : sEl w n = false) : CS w (n + 1) c m := by
  obtain ⟨a1, a2, a3, a4⟩ := h
  refine ⟨by omega, fun i hi => ?_, a3, fun t ht hel => ?_⟩
  · have := a2 i hi; exact ⟨by omega, this.2⟩
  · by_cases z : t = n
    · rw [z, he] at hel; cases hel
    · exact a4 t (by omega) hel
theorem CS.inj {w : Nat → Int} {n m : Nat} {c : Nat → Nat} (h : CS w n c m) {i j : Nat} (hi : i < m) (hj : j < m) (e : c i = c j) : i = j := by
  rcases Nat.lt_trichotomy i j with z | z | z
  · have := h.2.2.1 i j z hj
    rw [e] at this; unfold bf at this; omega
  · exact z
  · have := h.2.2.1 j i z hi
    rw [e] at this; unfold bf at this; omega
-- the class's
theorem c_cnd {M : xM} {i t : Nat} (hi : i < 20) (ht : t ≤ 20) (h : M 396 i = (t : Int)) : fX2_candidate 395 (i : Int) M = some (.inl ((102 + t : Nat) : Int), M) := by
  unfold fX2_candidate fX2_candidate_27
  rw [if_neg (by omega), if_neg (by omega), xix_t (by omega) (by omega), xr_395_0, xr_395_1, Int.toNat_natCast, h, c_trd ht, xb_l, Int.toNat_natCast]; rfl
/-- ranks are small -/
def RK (w : Nat → Int) : Prop := ∀ t : Nat, t < 20 → (t : Int) < w 1543 → 0 ≤ w (810 + t) + w (850 + t) ∧ w (810 + t) + w (850 + t) ≤ 10000
theorem c_rk {M : xM} {w : Nat → Int} (hR : R M w) (hK : RK w) {t : Nat} (ht : t < 20) (hl : (t : Int) < w 1543) : fX2_rankOf (102 + t) M = some (.inl (sRk w t), M) := by
  have k := hK t ht hl
  unfold fX2_rankOf
  rw [hR.tpri ht, hR.tage ht, w32_i (by omega) (by omega)]; rfl
theorem c_shiftup {t p : Nat} (hp : p < 20) : ∀ (d n : Nat) (M : xM), p + d < 20 → d < n → M (102 + t) 0 = (t : Int) → t < 21 → 0 ≤ M 395 4 → M 395 4 < 1000 → ∃ M', fX2_insertCandidate_46 395 (102 + t) (p : Int) n ((p + d : Nat) : Int) M = some (.inl 0, M') ∧ (∀ i, M' 396 i = if i = p then (t : Int) else if p < i ∧ i ≤ p + d then M 396 (i - 1) else M 396 i) ∧ M' 395 4 = M 395 4 + 1 ∧ (∀ k, k ≠ 4 → M' 395 k = M 395 k) ∧ ∀ c, c ≠ 395 → c ≠ 396 → M' c = M c
  | _, 0, _, _, hn, _, _, _, _ => absurd hn (Nat.not_lt_zero _)
  | 0, n + 1, M, hd, _, ht, ht2, h0, h1 => by
    refine ⟨xup (xup M 396 p (t : Int)) 395 4 (M 395 4 + 1), ?_, fun i => ?_, xup_same, fun k hk => ?_, fun c a b => ?_⟩
    · rw [fX2_insertCandidate_46, if_pos (by omega), if_neg (by omega), xix_t (by omega) (by omega), xr_395_1, Int.toNat_natCast, xput_b, xput_b, ht, xup_c (a := 395) (by omega), w32_i (by omega) (by omega)]; rfl
    · rw [xup_c (by omega)]
      by_cases z : i = p
      · rw [if_pos z, z, xup_same]
      · rw [if_neg z, xup_k z, if_neg (by omega)]
    · rw [xup_k hk, xup_c (by omega)]
    · rw [xup_row a, xup_row b]
  | d + 1, n + 1, M, hd, hn, ht, ht2, h0, h1 => by
    obtain ⟨M', g1, g2, g3, g4, g5⟩ := c_shiftup hp d n (xup M 396 (p + (d + 1)) (M 396 (p + d))) (by omega) (by omega) (by rw [xup_c (by omega)]; exact ht) ht2 (by rw [xup_c (by omega)]; exact h0) (by rw [xup_c (by omega)]; exact h1)
    refine ⟨M', ?_, fun i => ?_, by rw [g3, xup_c (by omega)], fun k hk => by rw [g4 k hk, xup_c (by omega)], fun c a b => by rw [g5 c a b, xup_row b]⟩
    · have e1 : w32 (((p + (d + 1) : Nat) : Int) - 1) = ((p + d : Nat) : Int) := by rw [w32_i (by omega) (by omega)]; omega
      have e2 : w32 (((p + (d + 1) : Nat) : Int) + (-1)) = ((p + d : Nat) : Int) := by rw [w32_i (by omega) (by omega)]; omega
      rw [fX2_insertCandidate_46, if_neg (by omega), e1, xix_t (by omega) (by omega), xix_t (by omega) (by omega), xr_395_1, xput_b, e2, Int.toNat_natCast, Int.toNat_natCast]; exact g1
    · rw [g2 i]
      by_cases z : i = p
      · rw [if_pos z, if_pos z]
      · rw [if_neg z, if_neg z]
        by_cases y : p < i ∧ i ≤ p + d
        · rw [if_pos y, if_pos ⟨y.1, by omega⟩, xup_k (by omega)]
        · rw [if_neg y]
          by_cases x : i = p + (d + 1)
          · rw [x, xup_same, if_pos ⟨by omega, by omega⟩, show p + (d + 1) - 1 = p + d by omega]
          · rw [xup_k x, if_neg (by omega)]
theorem c_insc {M : xM} {w : Nat → Int} (hR : R M w) (hK : RK w) {c : Nat → Nat} {m t : Nat} (hm : m < 20) (ht : t < 20) (hlt : (t : Int) < w 1543) (hc : ∀ i, i < m → M 396 i = (c i : Int) ∧ c i < 20 ∧ (c i : Int) < w 1543) (h4 : M 395 4 = (m : Int)) : ∀ (k i n : Nat), i + k = m → k < n → (∀ x, x < i → sRk w t ≤ sRk w (c x)) → ∃ M' p, fX2_insertCandidate_2 395 (102 + t) n (i : Int) M = some (.inl 0, M') ∧ p ≤ m ∧ (∀ x, x < p → sRk w t ≤ sRk w (c x)) ∧ (p < m → sRk w (c p) < sRk w t) ∧ (∀ x, x < m + 1 → M' 396 x = (cIn c p t x : Int)) ∧ M' 395 4 = ((m + 1 : Nat) : Int) ∧ (∀ k, k ≠ 4 → M' 395 k = M 395 k) ∧ ∀ c, c ≠ 395 → c ≠ 396 → M' c = M c := by
  have fin : ∀ p, p ≤ m → (∀ x, x < p → sRk w t ≤ sRk w (c x)) → (p < m → sRk w (c p) < sRk w t) → ∃ M' q, fX2_insertCandidate_31 395 (102 + t) (p : Int) M = some (.inl 0, M') ∧ q ≤ m ∧ (∀ x, x < q → sRk w t ≤ sRk w (c x)) ∧ (q < m → sRk w (c q) < sRk w t) ∧ (∀ x, x < m + 1 → M' 396 x = (cIn c q t x : Int)) ∧ M' 395 4 = ((m + 1 : Nat) : Int) ∧ (∀ k, k ≠ 4 → M' 395 k = M 395 k) ∧ ∀ c, c ≠ 395 → c ≠ 396 → M' c = M c := fun p hp h1 h2 => by
    obtain ⟨M', g1, g2, g3, g4, g5⟩ := c_shiftup (t := t) (p := p) (by omega) (m - p) xN M (by omega) (by unfold xN; omega) (hR.tN ht) (by omega) (by omega) (by omega)
    refine ⟨M', p, ?_, hp, h1, h2, fun x hx => ?_, by rw [g3, h4]; omega, g4, g5⟩
    · unfold fX2_insertCandidate_31
      rw [h4, show min (m : Int) (w32 (20 - 1)) = ((p + (m - p) : Nat) : Int) by rw [show w32 (20 - 1) = 19 by decide]; omega, xlet_b]
      exact g1
    · rw [g2 x]
      unfold cIn
      by_cases z : x = p
      · rw [if_pos z, if_neg (by omega), if_pos z]
      · rw [if_neg z]
        by_cases y : x < p
        · rw [if_neg (by omega), if_pos y]; exact (hc x (by omega)).1
        · rw [if_pos (by omega), if_neg y, if_neg z]; exact (hc (x - 1) (by omega)).1
  intro k
  induction k with
  | zero =>
    intro i n hi hn hx
    obtain ⟨n', rfl⟩ : ∃ n', n = n' + 1 := ⟨n - 1, by omega⟩
    obtain ⟨M', p, g⟩ := fin i (by omega) hx (fun y => by omega)
    exact ⟨M', p, by rw [fX2_insertCandidate_2, if_pos (by rw [h4]; omega)]; exact g.1, g.2⟩
  | succ k ih =>
    intro i n hi hn hx
    obtain ⟨n', rfl⟩ : ∃ n', n = n' + 1 := ⟨n - 1, by omega⟩
    have hci := hc i (by omega)
    by_cases z : sRk w (c i) < sRk w t
    · obtain ⟨M', p, g⟩ := fin i (by omega) hx (fun y => z)
      refine ⟨M', p, ?_, g.2⟩
      rw [fX2_insertCandidate_2, if_neg (by rw [h4]; omega), c_cnd (by omega) (by omega) hci.1, xb_l, Int.toNat_natCast, c_rk hR hK hci.2.1 hci.2.2, xb_l, c_rk hR hK ht hlt, xb_l, if_pos z]; exact g.1
    · obtain ⟨M', p, g⟩ := ih (i + 1) n' (by omega) (by omega) (fun x hx2 => by
        by_cases y : x = i
        · rw [y]; omega
        · exact hx x (by omega))
      refine ⟨M', p, ?_, g.2⟩
      rw [fX2_insertCandidate_2, if_neg (by rw [h4]; omega), c_cnd (by omega) (by omega) hci.1, xb_l, Int.toNat_natCast, c_rk hR hK hci.2.1 hci.2.2, xb_l, c_rk hR hK ht hlt, xb_l, if_neg z, w32_s (by omega)]; exact g.1
theorem c_find {w : Nat → Int} (hL : LT w) (hH : HF w) (hK : RK w) : ∀ (k t n : Nat) (M : xM) (c : Nat → Nat) (m : Nat), (t : Int) + k = w 1543 → k < n → R M w → CS w t c m → (∀ i, i < m → M 396 i = (c i : Int)) → M 395 4 = (m : Int) → ∃ M' c' m', fX2_findCandidates_7 395 n (t : Int) M = some (.inl 0, M') ∧ CS w (t + k) c' m' ∧ (∀ i, i < m' → M' 396 i = (c' i : Int)) ∧ M' 395 4 = ((min m' 10 : Nat) : Int) ∧ (∀ k, k ≠ 4 → M' 395 k = M 395 k) ∧ ∀ c, c ≠ 395 → c ≠ 396 → M' c = M c
  | _, _, 0, _, _, _, _, hn, _, _, _, _ => absurd hn (Nat.not_lt_zero _)
  | 0, t, n + 1, M, c, m, ht, _, hR, hC, h1, h2 => by
    refine ⟨xup M 395 4 ((min m 10 : Nat) : Int), c, m, ?_, hC, fun i hi => by rw [xup_c (by omega)]; exact h1 i hi, xup_same, fun k hk => xup_k hk, fun c a _ => xup_row a⟩
    rw [fX2_findCandidates_7, xr_395_0, if_pos (by rw [hR.nT]; omega), xput_b, h2, show min (m : Int) 10 = ((min m 10 : Nat) : Int) by omega]; rfl
  | k + 1, t, n + 1, M, c, m, ht, hn, hR, hC, h1, h2 => by
    have c3 := hL.1.2.2.2.1
    have hl : (t : Int) < w 1543 := by omega
    have ht4 : t < 20 := by omega
    have f := hL.2 t hl
    have hb : ∀ b : Bool, sEl w t = false → ∃ M' c' m', fX2_findCandidates_7 395 n ((t + 1 : Nat) : Int) M = some (.inl 0, M') ∧ CS w (t + (k + 1)) c' m' ∧ (∀ i, i < m' → M' 396 i = (c' i : Int)) ∧ M' 395 4 = ((min m' 10 : Nat) : Int) ∧ (∀ k, k ≠ 4 → M' 395 k = M 395 k) ∧ ∀ c, c ≠ 395 → c ≠ 396 → M' c = M c := fun _ he => by
      obtain ⟨M', c', m', g⟩ := c_find hL hH hK k (t + 1) n M c m (by omega) (by omega) hR (hC.skip he) h1 h2
      rw [show t + 1 + k = t + (k + 1) by omega] at g
      exact ⟨M', c', m', g⟩
    rw [fX2_findCandidates_7, xr_395_0, if_neg (by rw [hR.nT]; omega), c_trd (by omega), xb_l, Int.toNat_natCast, c_due hR f hl, xb_l, if_b0, c_hu hR hH f, xb_l, if_b0]
    unfold fX2_findCandidates_54
    rw [w32_s (by omega)]
    cases q1 : sDue w t
    · rw [if_f]; exact hb true (by unfold sEl; rw [q1]; rfl)
    · rw [if_t]
      cases q2 : sHu w t
      · rw [if_f]
        have he : sEl w t = true := by unfold sEl; rw [q1, q2]; rfl
        obtain ⟨M1, p, a1, a2, a3, a4, a5, a6, a7, a8⟩ := c_insc hR hK (c := c) (m := m) (t := t) (by have h9 : m ≤ t := hC.1; omega) ht4 hl (fun i hi => ⟨h1 i hi, by have := (hC.2.1 i hi).1; omega, by have := (hC.2.1 i hi).1; omega⟩) h2 m 0 xN (by omega) (by have h9 : m ≤ t := hC.1; unfold xN; omega) (fun x hx => absurd hx (Nat.not_lt_zero _))
        obtain ⟨M2, c', m', b1, b2, b3, b4, b5, b6⟩ := c_find hL hH hK k (t + 1) n M1 (cIn c p t) (m + 1) (by omega) (by omega) (hR.fr (fun x _ _ => a8 x (by omega) (by omega))) (hC.ins he a2 a3 a4) a5 a6
        refine ⟨M2, c', m', ?_, by rw [show t + (k + 1) = t + 1 + k by omega]; exact b2, b3, b4, fun k hk => by rw [b5 k hk, a7 k hk], fun x y z => by rw [b6 x y z, a8 x y z]⟩
        unfold fX2_insertCandidate
        rw [show fX2_insertCandidate_2 395 (102 + t) xN 0 M = _ from a1, xb_l]; exact b1
      · rw [if_t]; exact hb true (by unfold sEl; rw [q1, q2]; rfl)
theorem c_cands {M : xM} {w : Nat → Int} (hR : R M w) (hL : LT w) (hH : HF w) (hK : RK w) {nT : Nat} (hn : w 1543 = (nT : Int)) : ∃ M' c m, fX2_findCandidates 395 M = some (.inl 0, M') ∧ CS w nT c m ∧ (∀ i, i < m → M' 396 i = (c i : Int)) ∧ M' 395 4 = ((min m 10 : Nat) : Int) ∧ (∀ k, k ≠ 4 → M' 395 k = M 395 k) ∧ ∀ c, c ≠ 395 → c ≠ 396 → M' c = M c := by
  have c3 := hL.1.2.2.2.1
  obtain ⟨M', c, m, g1, g2, g3, g4, g5, g6⟩ := c_find hL hH hK nT 0 xN (xup M 395 4 0) (fun _ => 0) 0 (by omega) (by unfold xN; omega) (hR.fr (fun x _ _ => xup_row (by omega))) ⟨Nat.le_refl 0, fun i hi => absurd hi (Nat.not_lt_zero _), fun i j _ hj => absurd hj (Nat.not_lt_zero _), fun t ht => absurd ht (Nat.not_lt_zero _)⟩ (fun i hi => absurd hi (Nat.not_lt_zero _)) xup_same
  rw [Nat.zero_add] at g2
  refine ⟨M', c, m, ?_, g2, g3, g4, fun k hk => by rw [g5 k hk, xup_k hk], fun x y z => by rw [g6 x y z, xup_row y]⟩
  unfold fX2_findCandidates
  rw [xput_b]; exact g1
-- the model's
/-- nothing but the model's notes changed -/
def mn (M N : xM) : Prop := (∀ c, c ≠ 404 → c ≠ 405 → c ≠ 400 → N c = M c) ∧ ∀ k, k ≠ 5 → N 400 k = M 400 k
theorem mn.refl (M : xM) : mn M M := ⟨fun _ _ _ _ => rfl, fun _ _ => rfl⟩
theorem mn.trans {M N P : xM} (h : mn M N) (h2 : mn N P) : mn M P := ⟨fun c a b d => (h2.1 c a b d).trans (h.1 c a b d), fun k hk => (h2.2 k hk).trans (h.2 k hk)⟩
theorem mn.g {M N : xM} (h : mn M N) {j : Nat} {v : Int} : mn M (xup N 405 j v) := ⟨fun c a b d => by rw [xup_row b]; exact h.1 c a b d, fun k hk => by rw [xup_c (by omega)]; exact h.2 k hk⟩
theorem mn.c {M N : xM} (h : mn M N) {j : Nat} {v : Int} : mn M (xup N 404 j v) := ⟨fun c a b d => by rw [xup_row a]; exact h.1 c a b d, fun k hk => by rw [xup_c (by omega)]; exact h.2 k hk⟩
theorem mn.n {M N : xM} (h : mn M N) {v : Int} : mn M (xup N 400 5 v) := ⟨fun c a b d => by rw [xup_row d]; exact h.1 c a b d, fun k hk => by rw [xup_k hk]; exact h.2 k hk⟩
theorem m_cgone {w : Nat → Int} (hL : LT w) : ∀ (k t n : Nat) (M : xM), M 401 = w → (t : Int) + k = w 1543 → k < n → (∀ i, i < t → (M 405 i = 0 ↔ sEl w i = true)) → ∃ N, fX12_candidates_7 400 n (t : Int) M = fX12_candidates_56 400 xN 0 N ∧ mn M N ∧ (∀ i, i < t + k → (N 405 i = 0 ↔ sEl w i = true)) ∧ N 404 = M 404 ∧ N 400 5 = M 400 5
  | _, _, 0, _, _, _, hn, _ => absurd hn (Nat.not_lt_zero _)
  | 0, t, n + 1, M, hw, ht, _, hg => by
    refine ⟨M, ?_, mn.refl M, hg, rfl, rfl⟩
    rw [fX12_candidates_7, xr_400_0, hw, if_pos (by omega)]
  | k + 1, t, n + 1, M, hw, ht, hn, hg => by
    have c3 := hL.1.2.2.2.1
    have hl : (t : Int) < w 1543 := by omega
    have ht4 : t < 20 := by omega
    have f := hL.2 t hl
    have key : ∀ v : Int, (v = 0 ↔ sEl w t = true) → ∃ N, fX12_candidates_7 400 n ((t + 1 : Nat) : Int) (xup M 405 t v) = fX12_candidates_56 400 xN 0 N ∧ mn M N ∧ (∀ i, i < t + (k + 1) → (N 405 i = 0 ↔ sEl w i = true)) ∧ N 404 = M 404 ∧ N 400 5 = M 400 5 := fun v hv => by
      obtain ⟨N, g1, g2, g3, g4, g5⟩ := m_cgone hL k (t + 1) n (xup M 405 t v) (by rw [xup_row (by omega)]; exact hw) (by omega) (by omega) (fun i hi => by
        by_cases z : i = t
        · rw [z, xup_same]; exact hv
        · rw [xup_k z]; exact hg i (by omega))
      exact ⟨N, g1, ((mn.refl M).g).trans g2, by rw [show t + (k + 1) = t + 1 + k by omega]; exact g3, by rw [g4, xup_row (by omega)], by rw [g5, xup_c (by omega)]⟩
    have d := m_due (M := M) (t := t) (by rw [hw]; exact f)
    have u := m_hu (M := M) (t := t) (by rw [hw]; exact f)
    rw [hw] at d u
    rw [fX12_candidates_7, xr_400_0, hw, if_neg (by omega), d, xb_l, if_b0, u, xb_l, if_b0]
    unfold fX12_candidates_46 fX12_candidates_47
    rw [xix_t (by omega) (by omega), xr_400_6, xix_t (by omega) (by omega), xput_b, xput_b, Int.toNat_natCast, w32_s (by omega)]
    cases q1 : sDue w t
    · rw [if_f]; exact key 1 (by unfold sEl; rw [q1]; simp)
    · rw [if_t]
      cases q2 : sHu w t
      · rw [if_f]; exact key 0 (by unfold sEl; rw [q1, q2]; simp)
      · rw [if_t]; exact key 1 (by unfold sEl; rw [q1, q2]; simp)
theorem bf_tr {w : Nat → Int} {a b : Nat} (h : bf w a b) : ¬ bf w b a := by unfold bf at *; omega
/-- one turn of the selection -/
theorem m_cpick {w : Nat → Int} (hL : LT w) (hK : RK w) (rc' : Int → xM → xO) {M : xM} (hw : M 401 = w) (hr : 0 ≤ M 400 5 ∧ M 400 5 < 10) : ∀ (k t n : Nat) (p : Int), (t : Int) + k = w 1543 → k < n → ((p = -1 ∧ ∀ v, v < t → M 405 v ≠ 0) ∨ ∃ u : Nat, p = (u : Int) ∧ u < t ∧ M 405 u = 0 ∧ ∀ v, v < t → M 405 v = 0 → v = u ∨ bf w u v) → ((fX12_candidates_73 rc' 400 n p (t : Int) M = rc' (-1) M ∧ ∀ v, v < t + k → M 405 v ≠ 0) ∨ ∃ u : Nat, u < t + k ∧ M 405 u = 0 ∧ (∀ v, v < t + k → M 405 v = 0 → v = u ∨ bf w u v) ∧ fX12_candidates_73 rc' 400 n p (t : Int) M = rc' (u : Int) (xup (xup (xup M 405 u 1) 404 (M 400 5).toNat (u : Int)) 400 5 (M 400 5 + 1)))
  | _, _, 0, _, _, hn, _ => absurd hn (Nat.not_lt_zero _)
  | 0, t, n + 1, p, ht, _, hp => by
    have c3 := hL.1.2.2.2.1
    rw [fX12_candidates_73, xr_400_0, hw, if_pos (by omega)]
    rcases hp with ⟨p1, p2⟩ | ⟨u, p1, p2, p3, p4⟩
    · rw [if_pos (by omega), p1]; exact Or.inl ⟨rfl, p2⟩
    · refine Or.inr ⟨u, p2, p3, p4, ?_⟩
      rw [if_neg (by omega), p1, xix_t (by omega) (by omega), xr_400_6, xput_b, Int.toNat_natCast, xup_c (a := 400) (by omega), xix_t (by omega) (by omega), xr_400_4, xput_b, xput_b, xup_c (a := 400) (by omega), xup_c (a := 400) (by omega), w32_i (by omega) (by omega)]
  | k + 1, t, n + 1, p, ht, hn, hp => by
    have c3 := hL.1.2.2.2.1
    have hl : (t : Int) < w 1543 := by omega
    have ht4 : t < 20 := by omega
    have kt := hK t ht4 hl
    rw [show t + (k + 1) = t + 1 + k by omega]
    have ih := fun p hp2 => m_cpick hL hK rc' hw hr k (t + 1) n p (by omega) (by omega) hp2
    rw [fX12_candidates_73, xr_400_0, hw, if_neg (by omega), xix_t (by omega) (by omega), xr_400_6, Int.toNat_natCast]
    unfold fX12_candidates_146 fX12_candidates_150 fX12_candidates_151 fX12_candidates_161
    rw [w32_s (by omega)]
    simp only [↓reduceIte, if_neg (show ¬ (1 : Int) = 0 by decide)]
    by_cases z : M 405 t = 0
    · rw [if_pos z]
      rcases hp with ⟨p1, p2⟩ | ⟨u, p1, p2, p3, p4⟩
      · rw [if_pos (by omega)]
        exact ih (t : Int) (Or.inr ⟨t, rfl, by omega, z, fun v hv hz => by
          by_cases y : v = t
          · exact Or.inl y
          · exact absurd hz (p2 v (by omega))⟩)
      · have ku := hK u (by omega) (by omega)
        rw [if_neg (by omega), p1]
        simp (disch := omega) only [w32_i, xix_t, tn_add, Int.toNat_natCast, Int.reduceToNat, w64_i]
        by_cases y : w (810 + t) + w (850 + t) ≤ w (810 + u) + w (850 + u)
        · rw [if_pos y]
          exact ih (u : Int) (Or.inr ⟨u, rfl, by omega, p3, fun v hv hz => by
            by_cases x : v = t
            · right; rw [x]; unfold bf sRk; omega
            · exact p4 v (by omega) hz⟩)
        · rw [if_neg y]
          exact ih (t : Int) (Or.inr ⟨t, rfl, by omega, z, fun v hv hz => by
            by_cases x : v = t
            · exact Or.inl x
            · right
              rcases p4 v (by omega) hz with g | g
              · rw [g]; unfold bf sRk; omega
              · unfold bf sRk at g ⊢; omega⟩)
    · rw [if_neg z]
      refine ih p ?_
      rcases hp with ⟨p1, p2⟩ | ⟨u, p1, p2, p3, p4⟩
      · exact Or.inl ⟨p1, fun v hv => by
          by_cases y : v = t
          · rw [y]; exact z
          · exact p2 v (by omega)⟩
      · exact Or.inr ⟨u, p1, by omega, p3, fun v hv hz => by
          by_cases y : v = t
          · rw [y] at hz; exact absurd hz z
          · exact p4 v (by omega) hz⟩
theorem m_csel {w : Nat → Int} (hL : LT w) (hK : RK w) {nT m : Nat} {c : Nat → Nat} (hn : w 1543 = (nT : Int)) (hC : CS w nT c m) : ∀ (k r n : Nat) (M : xM), r + k = min m 10 → k + 1 < n → M 401 = w → M 400 5 = (r : Int) → (∀ i, i < r → M 404 i = (c i : Int)) → (∀ t, t < nT → (M 405 t = 0 ↔ (sEl w t = true ∧ ∀ i, i < r → c i ≠ t))) → ∃ N, (∀ p : Int, 0 ≤ p → fX12_candidates_56 400 n p M = some (.inl 0, N)) ∧ mn M N ∧ N 400 5 = ((min m 10 : Nat) : Int) ∧ ∀ i, i < min m 10 → N 404 i = (c i : Int)
  | _, _, 0, _, _, hn2, _, _, _, _ => absurd hn2 (Nat.not_lt_zero _)
  | 0, r, n + 1, M, hr, hn2, hw, h5, h4, hg => by
    have c3 := hL.1.2.2.2.1
    by_cases z : 10 ≤ r
    · refine ⟨M, fun p hp => ?_, mn.refl M, by rw [h5]; omega, fun i hi => h4 i (by omega)⟩
      rw [fX12_candidates_56, if_neg (by omega), if_pos (by omega)]; rfl
    · have hrm : r = m := by omega
      rcases m_cpick hL hK (fX12_candidates_56 400 n) (M := M) hw (by omega) nT 0 xN (-1) (by omega) (by unfold xN; omega) (Or.inl ⟨rfl, fun v hv => absurd hv (Nat.not_lt_zero _)⟩) with ⟨g1, -⟩ | ⟨u, u1, u2, -⟩
      · refine ⟨M, fun p hp => ?_, mn.refl M, by rw [h5]; omega, fun i hi => h4 i (by omega)⟩
        obtain ⟨n', rfl⟩ : ∃ n', n = n' + 1 := ⟨n - 1, by omega⟩
        rw [fX12_candidates_56, if_neg (by omega), if_neg (by omega), show fX12_candidates_73 (fX12_candidates_56 400 (n' + 1)) 400 xN (-1) 0 M = _ from g1, fX12_candidates_56, if_pos (by decide)]; rfl
      · obtain ⟨v1, v2⟩ := (hg u (by omega)).1 u2
        obtain ⟨i, i1, i2⟩ := hC.2.2.2 u (by omega) v1
        exact absurd i2 (v2 i (by omega))
  | k + 1, r, n + 1, M, hr, hn2, hw, h5, h4, hg => by
    have c3 := hL.1.2.2.2.1
    have hrm : r < m := by omega
    have cr := hC.2.1 r hrm
    have z0 : M 405 (c r) = 0 := (hg (c r) cr.1).2 ⟨cr.2, fun i hi e => by have := hC.inj (by omega) hrm e; omega⟩
    rcases m_cpick hL hK (fX12_candidates_56 400 n) (M := M) hw (by omega) nT 0 xN (-1) (by omega) (by unfold xN; omega) (Or.inl ⟨rfl, fun v hv => absurd hv (Nat.not_lt_zero _)⟩) with ⟨-, g2⟩ | ⟨u, u1, u2, u3, u4⟩
    · exact absurd z0 (g2 (c r) (by omega))
    · have eu : u = c r := by
        rcases u3 (c r) (by omega) z0 with e | e
        · exact e.symm
        · obtain ⟨v1, v2⟩ := (hg u (by omega)).1 u2
          obtain ⟨i, i1, i2⟩ := hC.2.2.2 u (by omega) v1
          have hir : r ≤ i := by
            by_cases y : r ≤ i
            · exact y
            · exact absurd i2 (v2 i (by omega))
          by_cases y : i = r
          · rw [← y]; exact i2.symm
          · have := hC.2.2.1 r i (by omega) i1
            rw [i2] at this
            exact absurd e (bf_tr this)
      rw [h5, Int.toNat_natCast, eu] at u4
      obtain ⟨N, g1, g2, g3, g4⟩ := m_csel hL hK hn hC k (r + 1) n (xup (xup (xup M 405 (c r) 1) 404 r (c r : Int)) 400 5 ((r : Int) + 1)) (by omega) (by omega) (by rw [xup_row (by omega), xup_row (by omega), xup_row (by omega)]; exact hw) (by rw [xup_same]; omega) (fun i hi => by
        rw [xup_c (by omega)]
        by_cases y : i = r
        · rw [y, xup_same]
        · rw [xup_k y, xup_c (by omega)]; exact h4 i (by omega)) (fun t ht => by
        rw [xup_c (by omega), xup_c (by omega)]
        by_cases y : t = c r
        · rw [y, xup_same]
          exact ⟨fun e => absurd e (by decide), fun e => absurd rfl (e.2 r (by omega))⟩
        · rw [xup_k y, hg t ht]
          exact ⟨fun e => ⟨e.1, fun i hi => by
            by_cases x : i = r
            · rw [x]; exact fun v => y v.symm
            · exact e.2 i (by omega)⟩, fun e => ⟨e.1, fun i hi => e.2 i (by omega)⟩⟩)
      refine ⟨N, fun p hp => ?_, (((mn.refl M).g).c).n.trans g2, g3, g4⟩
      rw [fX12_candidates_56, if_neg (by omega), if_neg (by omega), show fX12_candidates_73 (fX12_candidates_56 400 n) 400 xN (-1) 0 M = _ from u4]
      exact g1 (c r : Int) (by omega)
theorem m_cands {w : Nat → Int} (hL : LT w) (hK : RK w) {nT m : Nat} {c : Nat → Nat} (hn : w 1543 = (nT : Int)) (hC : CS w nT c m) {M : xM} (hw : M 401 = w) : ∃ N, fX12_candidates 400 M = some (.inl 0, N) ∧ mn M N ∧ N 400 5 = ((min m 10 : Nat) : Int) ∧ ∀ i, i < min m 10 → N 404 i = (c i : Int) := by
  have c3 := hL.1.2.2.2.1
  obtain ⟨N, g1, g2, g3, g4, g5⟩ := m_cgone hL nT 0 xN (xup M 400 5 0) (by rw [xup_row (by omega)]; exact hw) (by omega) (by unfold xN; omega) (fun i hi => absurd hi (Nat.not_lt_zero _))
  rw [Nat.zero_add] at g3
  obtain ⟨P, k1, k2, k3, k4⟩ := m_csel hL hK hn hC (min m 10) 0 xN N (by omega) (by unfold xN; omega) (by rw [g2.1 401 (by omega) (by omega) (by omega), xup_row (by omega)]; exact hw) (by rw [g5, xup_same]; rfl) (fun i hi => absurd hi (Nat.not_lt_zero _)) (fun t ht => by
    rw [g3 t ht]
    exact ⟨fun e => ⟨e, fun i hi => absurd hi (Nat.not_lt_zero _)⟩, fun e => e.1⟩)
  refine ⟨P, ?_, ((mn.refl M).n.trans g2).trans k2, k3, k4⟩
  unfold fX12_candidates
  rw [xput_b, show fX12_candidates_7 400 xN 0 (xup M 400 5 0) = _ from g1]
  exact k1 0 (by decide)
