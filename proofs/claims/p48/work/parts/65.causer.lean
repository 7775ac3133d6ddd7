-- due, held, lacking; who causes a fine
def sDue (w : Nat → Int) (t : Nat) : Bool := decide (w (870 + t) = 0) && decide (w (450 + di w t) ≤ w 1547)
def sHd (w : Nat → Int) (i : Nat) : Bool := decide (w (610 + i) = 1)
def sHu (w : Nat → Int) (t : Nat) : Bool := sHd w (di w t) || sHd w (ri w t)
def sLa (w : Nat → Int) (t : Nat) : Bool := decide (sFree w (dl w t) (pp w t) < w (770 + t))
theorem c_due {M : xM} {w : Nat → Int} (hR : R M w) {t : Nat} (f : TF w t) (ht : (t : Int) < w 1543) : fX1_isDue 3 (102 + t) M = some (.inl (bi (sDue w t)), M) := by
  unfold fX1_isDue sDue
  rw [hR.tst f.1, hR.day, hR.tY ht f]
  by_cases a : w (870 + t) = 0
  · rw [if_pos (by omega), decide_eq_true a]
    by_cases b : w 1547 < w (450 + di w t)
    · rw [if_pos b, decide_eq_false (by omega)]; rfl
    · rw [if_neg b, decide_eq_true (by omega)]; rfl
  · rw [if_neg (by omega), decide_eq_false a]; rfl
theorem m_due {M : xM} {t : Nat} (f : TF (M 401) t) : fX12_due 400 (t : Int) M = some (.inl (bi (sDue (M 401) t)), M) := by
  obtain ⟨f0, f1, f2, f3, f4, f5, f6, -⟩ := f
  unfold fX12_due sDue
  simp (disch := omega) only [w32_i, xix_t, xr_400_0, tn_add, Int.toNat_natCast, Int.reduceToNat, f6]
  by_cases a : M 401 (870 + t) = 0
  · rw [if_pos a, decide_eq_true a]
    by_cases b : M 401 1547 < M 401 (450 + di (M 401) t)
    · rw [if_pos b, decide_eq_false (by omega)]; rfl
    · rw [if_neg b, decide_eq_true (by omega)]; rfl
  · rw [if_neg a, decide_eq_false a]; rfl
theorem B01.nz {x : Int} (h : B01 x) {α : Type} {p q : α} : (if x = 0 then p else q) = if decide (x = 1) then q else p := by
  rcases h with h | h
  · rw [if_pos h, decide_eq_false (by omega)]; rfl
  · rw [if_neg (by omega), decide_eq_true h]; rfl
/-- what is known of the instructions' flags -/
def HF (w : Nat → Int) : Prop := ∀ i : Nat, i < 40 → B01 (w (610 + i))
theorem II.hf {w : Nat → Int} (h : II w) : HF w := fun i hi => by
  by_cases q : (i : Int) < w 1542
  · exact ((h i hi).1 q).2.2.2.2.2.2.2.2.2.2.2.2.2.1
  · exact Or.inl ((h i hi).2 (by omega)).2.1
theorem c_hu {M : xM} {w : Nat → Int} (hR : R M w) (hH : HF w) {t : Nat} (f : TF w t) : fX1_isHeldUp 3 (102 + t) M = some (.inl (bi (sHu w t)), M) := by
  obtain ⟨f0, f1, f2, -, -, -, f6, f7, -⟩ := id f
  unfold fX1_isHeldUp fX1_isHeldUp_28 sHu sHd
  rw [hR.tdel f0, f6, c_ins (by omega), xb_l, Int.toNat_natCast, hR.iheld f1, (hH _ f1).nz, hR.trec f0, f7, c_ins (by omega), xb_l, Int.toNat_natCast, hR.iheld f2, (hH _ f2).nz]
  cases decide (w (610 + di w t) = 1)
  · cases decide (w (610 + ri w t) = 1) <;> rfl
  · rfl
theorem m_held {M : xM} {i : Nat} (hi : i < 40) : fX12_held 400 (i : Int) M = some (.inl (bi (sHd (M 401) i)), M) := by
  unfold fX12_held sHd
  simp (disch := omega) only [w32_i, xix_t, xr_400_0, tn_add, Int.toNat_natCast, Int.reduceToNat]
  by_cases a : M 401 (610 + i) = 1
  · rw [if_pos a, decide_eq_true a]; rfl
  · rw [if_neg a, decide_eq_false a]; rfl
theorem m_hu {M : xM} {t : Nat} (f : TF (M 401) t) : fX12_heldUp 400 (t : Int) M = some (.inl (bi (sHu (M 401) t)), M) := by
  obtain ⟨f0, f1, f2, f3, f4, f5, f6, f7, -⟩ := f
  unfold fX12_heldUp fX12_heldUp_50 sHu sHd
  simp (disch := omega) only [w32_i, xix_t, xr_400_0, tn_add, Int.toNat_natCast, Int.reduceToNat, f6, f7]
  by_cases a : M 401 (610 + di (M 401) t) = 1
  · rw [if_pos a, decide_eq_true a]; rfl
  · rw [if_neg a, decide_eq_false a]
    by_cases b : M 401 (610 + ri (M 401) t) = 1
    · rw [if_pos b, decide_eq_true b]; rfl
    · rw [if_neg b, decide_eq_false b]; rfl
theorem c_la {M : xM} {w : Nat → Int} (hR : R M w) {t : Nat} (f : TF w t) (ht : (t : Int) < w 1543) : fX1_isLacking 3 (102 + t) M = some (.inl (bi (sLa w t)), M) := by
  obtain ⟨f0, f1, f2, f3, f4, f5, -⟩ := id f
  unfold fX1_isLacking sLa
  rw [hR.tD ht f, c_acc (by omega), xb_l, Int.toNat_natCast, hR.tP ht f, c_free hR f3 f5, xb_l, hR.tun f0]
  by_cases a : w (770 + t) ≤ sFree w (dl w t) (pp w t)
  · rw [if_pos a, decide_eq_false (by omega)]; rfl
  · rw [if_neg a, decide_eq_true (by omega)]; rfl
theorem m_sh {M : xM} {t : Nat} (f : TF (M 401) t) : fX12_shortOf 400 (t : Int) M = some (.inl (bi (sLa (M 401) t)), M) := by
  obtain ⟨f0, f1, f2, f3, f4, f5, -⟩ := id f
  unfold fX12_shortOf sLa
  rw [m_dl f, xb_l, m_pp f, xb_l, m_free f3 f5, xb_l]
  simp (disch := omega) only [w32_i, xix_t, xr_400_0, tn_add, Int.toNat_natCast, Int.reduceToNat]
  by_cases a : M 401 (770 + t) ≤ sFree (M 401) (dl (M 401) t) (pp (M 401) t)
  · rw [if_pos a, decide_eq_false (by omega)]; rfl
  · rw [if_neg a, decide_eq_true (by omega)]; rfl
/-- the first due trade, not gone through, that brings the paper s to a -/
def sSrc (w : Nat → Int) (g : Nat → Bool) (a s : Nat) : Nat → Nat → Int
  | 0, _ => -1
  | k + 1, i => if !g i && (sDue w i && (decide (rc w i = a) && decide (pp w i = s))) then (i : Int) else sSrc w g a s k (i + 1)
theorem sSrc_c {w : Nat → Int} {g g' : Nat → Bool} {a s : Nat} : ∀ k i, (∀ j, j < i + k → g j = g' j) → sSrc w g a s k i = sSrc w g' a s k i
  | 0, _, _ => rfl
  | k + 1, i, h => by
    unfold sSrc
    rw [h i (by omega), sSrc_c k (i + 1) (fun j hj => h j (by omega))]
theorem sSrc_v {w : Nat → Int} {g : Nat → Bool} {a s : Nat} : ∀ k i, sSrc w g a s k i = -1 ∨ ∃ j : Nat, sSrc w g a s k i = (j : Int) ∧ j < i + k ∧ g j = false
  | 0, _ => Or.inl rfl
  | k + 1, i => by
    unfold sSrc
    cases q : !g i && (sDue w i && (decide (rc w i = a) && decide (pp w i = s)))
    · rw [if_f]
      rcases sSrc_v (w := w) (g := g) (a := a) (s := s) k (i + 1) with h | ⟨j, h1, h2, h3⟩
      · exact Or.inl h
      · exact Or.inr ⟨j, h1, by omega, h3⟩
    · rw [if_t]
      refine Or.inr ⟨i, rfl, by omega, ?_⟩
      have := (and_tt q).1
      cases h : g i
      · rfl
      · rw [h] at this; cases this
def LT (w : Nat → Int) : Prop := IC w ∧ ∀ t : Nat, (t : Int) < w 1543 → TF w t
theorem Inv0.lt {w : Nat → Int} (h : Inv0 w) : LT w := ⟨h.1, fun _ ht => h.tf ht⟩
theorem c_src {M : xM} {w : Nat → Int} (hR : R M w) (hL : LT w) {t : Nat} (ht : (t : Int) < w 1543) (x : Int) : ∀ (k i n : Nat), i + k = (w 1543).toNat → k < n → fX1_sourceOf_2 3 (102 + t) x n (i : Int) M = some (.inl (sSrc w (bb x) (dl w t) (pp w t) k i), M)
  | _, _, 0, _, hn => absurd hn (Nat.not_lt_zero _)
  | 0, i, n + 1, hi, _ => by
    rw [fX1_sourceOf_2, if_pos (by rw [hR.nT]; have := hL.1.2.2.2.1; omega)]; rfl
  | k + 1, i, n + 1, hi, hn => by
    have hc := hL.1.2.2.2.1
    have hl : (i : Int) < w 1543 := by omega
    have f := hL.2 i hl
    have ft := hL.2 t ht
    have e72 : fX1_sourceOf_72 (fX1_sourceOf_2 3 (102 + t) x n) 3 (102 + t) x (i : Int) M = some (.inl (sSrc w (bb x) (dl w t) (pp w t) k (i + 1)), M) := by
      unfold fX1_sourceOf_72
      rw [w32_s (by omega)]; exact c_src hR hL ht x k (i + 1) n (by omega) (by omega)
    rw [fX1_sourceOf_2, if_neg (by rw [hR.nT]; omega), c_trd (by omega), xb_l, Int.toNat_natCast, bb_bit x i (by omega), if_b0]
    unfold fX1_sourceOf_30
    rw [c_due hR f hl, xb_l, if_b0, hR.tR hl f, hR.tD ht ft, hR.tP hl f, hR.tP ht ft, e72, sSrc]
    cases bb x i
    · rw [if_f, if_neg (by decide), Bool.not_false, Bool.true_and]
      cases sDue w i
      · rfl
      · rw [if_t, Bool.true_and]
        by_cases a : rc w i = dl w t
        · rw [if_pos (by omega), decide_eq_true a]
          by_cases b : pp w i = pp w t
          · rw [if_pos (by omega), decide_eq_true b]; rfl
          · rw [if_neg (by omega), decide_eq_false b]; rfl
        · rw [if_neg (by omega), decide_eq_false a]; rfl
    · rw [if_t, if_pos rfl]; rfl
def gs (g : Nat → Bool) (t : Nat) : Nat → Bool := fun i => g i || decide (i = t)
def sCau (w : Nat → Int) : Nat → (Nat → Bool) → Nat → Nat
  | 0, _, t => dl w t
  | n + 1, g, t => if sHd w (di w t) then dl w t else if sHd w (ri w t) || !sLa w t then rc w t else if sSrc w (gs g t) (dl w t) (pp w t) (w 1543).toNat 0 = -1 then dl w t else sCau w n (gs g t) (sSrc w (gs g t) (dl w t) (pp w t) (w 1543).toNat 0).toNat
theorem c_cau {M : xM} {w : Nat → Int} (hR : R M w) (hL : LT w) (hH : HF w) : ∀ (k x4 n t : Nat) (x : Int) (g : Nat → Bool), x4 + k = 20 → k < n → (t : Int) < w 1543 → (∀ i, i < 20 → bb x i = g i) → fX1_causerOf_7 3 n (102 + t) x (x4 : Int) M = some (.inl (sCau w k g t : Int), M)
  | _, _, 0, _, _, _, _, hn, _, _ => absurd hn (Nat.not_lt_zero _)
  | 0, x4, n + 1, t, x, g, hi, _, ht, _ => by
    rw [fX1_causerOf_7, if_pos (by omega), hR.tD ht (hL.2 t ht)]; rfl
  | k + 1, x4, n + 1, t, x, g, hi, hn, ht, hg => by
    have f := hL.2 t ht
    have hc := hL.1.2.2.2.1
    obtain ⟨f0, f1, f2, -, -, -, f6, f7, -⟩ := id f
    have hg' : ∀ i, i < 20 → bb (xor32 x (xshl 1 (t : Int))) i = gs g t i := fun i hi => by
      rw [bb_in (by omega) (by omega), hg i hi]; rfl
    have hs : fX1_sourceOf 3 (102 + t) (xor32 x (xshl 1 (t : Int))) M = some (.inl (sSrc w (gs g t) (dl w t) (pp w t) (w 1543).toNat 0), M) := by
      unfold fX1_sourceOf
      have := c_src hR hL ht (xor32 x (xshl 1 (t : Int))) (w 1543).toNat 0 xN (by omega) (by unfold xN; omega)
      rw [sSrc_c (g' := gs g t) _ 0 (fun j hj => hg' j (by omega))] at this
      exact this
    rw [fX1_causerOf_7, if_neg (by omega), hR.tdel f0, f6, c_ins (by omega), xb_l, Int.toNat_natCast, hR.iheld f1, (hH _ f1).nz, hR.trec f0, f7, c_ins (by omega), xb_l, Int.toNat_natCast, hR.iheld f2, (hH _ f2).nz, c_la hR f ht, xb_l, if_b0, hR.tN f0, hs, xb_l, hR.tD ht f, hR.tR ht f, sCau]
    unfold sHd
    cases decide (w (610 + di w t) = 1)
    · rw [if_f, if_f]
      cases decide (w (610 + ri w t) = 1)
      · rw [if_f, Bool.false_or]
        cases sLa w t
        · rfl
        · rw [if_t, Bool.not_true, if_f]
          rcases sSrc_v (w := w) (g := gs g t) (a := dl w t) (s := pp w t) (w 1543).toNat 0 with h | ⟨j, h1, h2, h3⟩
          · rw [h, if_pos rfl, if_pos rfl]; rfl
          · rw [h1, if_neg (by omega), if_neg (by omega), c_trd (by omega), xb_l, Int.toNat_natCast, Int.toNat_natCast, w32_s (by omega)]
            exact c_cau hR hL hH k (x4 + 1) n j _ (gs g t) (by omega) (by omega) (by omega) hg'
      · rfl
    · rfl
theorem c_causer {M : xM} {w : Nat → Int} (hR : R M w) (hL : LT w) (hH : HF w) {t : Nat} (ht : (t : Int) < w 1543) : fX1_causerOf 3 (102 + t) M = some (.inl (sCau w 20 (fun _ => false) t : Int), M) := by
  unfold fX1_causerOf
  exact c_cau hR hL hH 20 0 xN t 0 (fun _ => false) (by omega) (by unfold xN; omega) ht (fun i hi => bb_0 i (by omega))
-- the model's
def cn (g : Nat → Bool) : Nat → Nat
  | 0 => 0
  | n + 1 => cn g n + (if g n then 1 else 0)
theorem cn_le (g : Nat → Bool) : ∀ n, cn g n ≤ n
  | 0 => Nat.le_refl 0
  | n + 1 => by have := cn_le g n; unfold cn; split <;> omega
theorem cn_full {g : Nat → Bool} : ∀ n, cn g n = n → ∀ i, i < n → g i = true
  | 0, _, i, hi => absurd hi (Nat.not_lt_zero _)
  | n + 1, h, i, hi => by
    have l := cn_le g n
    unfold cn at h
    cases q : g n
    · rw [q, if_f] at h; omega
    · rw [q, if_t] at h
      by_cases z : i = n
      · rw [z]; exact q
      · exact cn_full n (by omega) i (by omega)
theorem cn_c {g g' : Nat → Bool} : ∀ n, (∀ i, i < n → g i = g' i) → cn g n = cn g' n
  | 0, _ => rfl
  | n + 1, h => by unfold cn; rw [cn_c n (fun i hi => h i (by omega)), h n (by omega)]
theorem cn_gs {g : Nat → Bool} {t : Nat} (h : g t = false) : ∀ n, t < n → cn (gs g t) n = cn g n + 1
  | 0, ht => absurd ht (Nat.not_lt_zero _)
  | n + 1, ht => by
    unfold cn
    by_cases q : t = n
    · subst q
      rw [cn_c (g := gs g t) (g' := g) t (fun i hi => by unfold gs; rw [decide_eq_false (by omega), Bool.or_false]), h]
      have : gs g t t = true := by unfold gs; rw [decide_eq_true rfl, Bool.or_true]
      rw [this]; rfl
    · have : gs g t n = g n := by unfold gs; rw [decide_eq_false (by omega), Bool.or_false]
      rw [cn_gs h n (by omega), this]; omega
def gm (M : xM) (i : Nat) : Bool := !decide (M 405 i = 0)
theorem m_chn {M : xM} (hL : LT (M 401)) (a s : Nat) : ∀ (k i n : Nat), i + k = (M 401 1543).toNat → k < n → fX12_chained_2 400 (a : Int) (s : Int) n (i : Int) M = some (.inl (sSrc (M 401) (gm M) a s k i), M)
  | _, _, 0, _, hn => absurd hn (Nat.not_lt_zero _)
  | 0, i, n + 1, hi, _ => by
    rw [fX12_chained_2, xr_400_0, if_pos (by have := hL.1.2.2.2.1; omega)]; rfl
  | k + 1, i, n + 1, hi, hn => by
    have hc := hL.1.2.2.2.1
    have hl : (i : Int) < M 401 1543 := by omega
    have f := hL.2 i hl
    have e53 : fX12_chained_53 (fX12_chained_2 400 (a : Int) (s : Int) n) 400 (a : Int) (s : Int) (i : Int) M = some (.inl (sSrc (M 401) (gm M) a s k (i + 1)), M) := by
      unfold fX12_chained_53
      rw [w32_s (by omega)]; exact m_chn hL a s k (i + 1) n (by omega) (by omega)
    rw [fX12_chained_2, xr_400_0, if_neg (by omega), xix_t (by omega) (by omega), xr_400_6, Int.toNat_natCast, m_due f, xb_l, if_b0, m_rc f, xb_l, m_pp f, xb_l, e53, sSrc]
    unfold gm
    by_cases z : M 405 i = 0
    · rw [if_pos z, decide_eq_true z, Bool.not_true, Bool.not_false, Bool.true_and]
      cases sDue (M 401) i
      · rfl
      · rw [if_t, Bool.true_and]
        by_cases x : rc (M 401) i = a
        · rw [if_pos (by omega), decide_eq_true x]
          by_cases y : pp (M 401) i = s
          · rw [if_pos (by omega), decide_eq_true y]; rfl
          · rw [if_neg (by omega), decide_eq_false y]; rfl
        · rw [if_neg (by omega), decide_eq_false x]; rfl
    · rw [if_neg z, decide_eq_false z]; rfl
theorem m_cau {w : Nat → Int} (hL : LT w) (hH : HF w) : ∀ (k n t : Nat) (M : xM) (g : Nat → Bool), M 401 = w → cn g 20 + k = 20 → g t = false → k < n → (t : Int) < w 1543 → (∀ i, i < 20 → gm M i = g i) → ∃ M', fX12_causerOf_23 400 n (t : Int) M = some (.inl (sCau w k g t : Int), M') ∧ ∀ c, c ≠ 405 → M' c = M c
  | _, 0, _, _, _, _, _, _, hn, _, _ => absurd hn (Nat.not_lt_zero _)
  | 0, n + 1, t, M, g, _, hk, hg, _, ht, _ => by
    have := cn_full 20 (by omega) t (hL.2 t ht).1
    rw [hg] at this; cases this
  | k + 1, n + 1, t, M, g, e, hk, hg, hn, ht, hm => by
    have f := hL.2 t ht
    have hc := hL.1.2.2.2.1
    obtain ⟨f0, f1, f2, f3, f4, f5, f6, f7, -⟩ := id f
    have e1 : xup M 405 t 1 401 = w := by rw [xup_row (by omega)]; exact e
    have h1 : ∀ c, c ≠ 405 → xup M 405 t 1 c = M c := fun c hc => xup_row hc
    have hm1 : ∀ i, i < 20 → gm (xup M 405 t 1) i = gs g t i := fun i hi => by
      unfold gm gs
      by_cases q : i = t
      · rw [q, xup_same, decide_eq_true rfl, Bool.or_true]; rfl
      · rw [xup_k q, decide_eq_false q, Bool.or_false]; exact hm i hi
    generalize hX : xup M 405 t 1 = X at *
    have hs : fX12_chained 400 (dl w t : Int) (pp w t : Int) X = some (.inl (sSrc w (gs g t) (dl w t) (pp w t) (w 1543).toNat 0), X) := by
      unfold fX12_chained
      have := m_chn (M := X) (by rw [e1]; exact hL) (dl w t) (pp w t) (w 1543).toNat 0 xN (by rw [e1]; omega) (by unfold xN; omega)
      rw [e1, sSrc_c (g' := gs g t) _ 0 (fun j hj => hm1 j (by omega))] at this
      exact this
    have fX : TF (X 401) t := by rw [e1]; exact f
    have d := m_dl fX
    have r := m_rc fX
    have p := m_pp fX
    have s := m_sh fX
    have i1 := m_held (M := X) f1
    have i2 := m_held (M := X) f2
    rw [e1] at d r p s i1 i2
    rw [fX12_causerOf_23, xix_t (by omega) (by omega), xr_400_6, xput_b, Int.toNat_natCast, hX]
    unfold fX12_causerOf_80
    simp (disch := omega) only [w32_i, xix_t, xr_400_0, tn_add, Int.toNat_natCast, Int.reduceToNat, e1, f6, f7]
    rw [i1, xb_l, if_b0, e1, f7, w32_i (x := (ri w t : Int)) (by omega) (by omega), i2]
    simp only [s, d, p, r, hs, xb_l, if_b0]
    rw [sCau]
    cases sHd w (di w t)
    · rw [if_f, if_f]
      cases sHd w (ri w t)
      · rw [if_f, Bool.false_or]
        cases sLa w t
        · exact ⟨X, rfl, h1⟩
        · rw [if_t, Bool.not_true, if_f]
          rcases sSrc_v (w := w) (g := gs g t) (a := dl w t) (s := pp w t) (w 1543).toNat 0 with h | ⟨j, j1, j2, j3⟩
          · rw [h, if_neg (by decide), if_pos rfl]; exact ⟨X, rfl, h1⟩
          · rw [j1, if_pos (by omega), if_neg (by omega), Int.toNat_natCast]
            obtain ⟨M', g1, g2⟩ := m_cau hL hH k n j X (gs g t) e1 (by rw [cn_gs hg 20 f0]; omega) j3 (by omega) (by omega) hm1
            exact ⟨M', g1, fun c hc => by rw [g2 c hc, h1 c hc]⟩
      · exact ⟨X, rfl, h1⟩
    · exact ⟨X, rfl, h1⟩
theorem m_cau0 (t : Nat) : ∀ (k i n : Nat) (M : xM), i + k = 20 → k < n → (∀ j, j < i → M 405 j = 0) → ∃ M', fX12_causerOf_4 400 (t : Int) n (i : Int) M = fX12_causerOf_23 400 xN (t : Int) M' ∧ (∀ j, j < 20 → M' 405 j = 0) ∧ ∀ c, c ≠ 405 → M' c = M c
  | _, _, 0, _, _, hn, _ => absurd hn (Nat.not_lt_zero _)
  | 0, i, n + 1, M, hi, _, h => ⟨M, by rw [fX12_causerOf_4, if_pos (by omega)], fun j hj => h j (by omega), fun _ _ => rfl⟩
  | k + 1, i, n + 1, M, hi, hn, h => by
    obtain ⟨M', g1, g2, g3⟩ := m_cau0 t k (i + 1) n (xup M 405 i 0) (by omega) (by omega) (fun j hj => by
      by_cases q : j = i
      · rw [q, xup_same]
      · rw [xup_k q]; exact h j (by omega))
    refine ⟨M', ?_, g2, fun c hc => by rw [g3 c hc, xup_row hc]⟩
    rw [fX12_causerOf_4, if_neg (by omega), xix_t (by omega) (by omega), xr_400_6, xput_b, Int.toNat_natCast, w32_s (by omega)]; exact g1
theorem m_causer {M : xM} (hL : LT (M 401)) (hH : HF (M 401)) {t : Nat} (ht : (t : Int) < M 401 1543) : ∃ M', fX12_causerOf 400 (t : Int) M = some (.inl (sCau (M 401) 20 (fun _ => false) t : Int), M') ∧ ∀ c, c ≠ 405 → M' c = M c := by
  obtain ⟨M1, a1, a2, a3⟩ := m_cau0 t 20 0 xN M (by omega) (by unfold xN; omega) (fun j hj => absurd hj (Nat.not_lt_zero _))
  obtain ⟨M2, b1, b2⟩ := m_cau (w := M 401) hL hH 20 xN t M1 (fun _ => false) (a3 401 (by omega)) (by decide) rfl (by unfold xN; omega) ht (fun i hi => by unfold gm; rw [a2 i hi]; rfl)
  exact ⟨M2, by unfold fX12_causerOf; exact a1.trans b1, fun c hc => by rw [b2 c hc, a3 c hc]⟩
theorem st_405 {M N : xM} {w T : Nat → Int} {h : Int} (hN : ∀ c, c ≠ 405 → N c = st M w T h c) : ∃ M3, N = st M3 w T h ∧ gb M M3 := by
  refine ⟨fun c => if c = 405 then N 405 else M c, ?_, fun c k _ h2 _ => by show (if c = 405 then N 405 else M c) k = M c k; rw [if_neg h2]⟩
  funext c
  by_cases q : c = 405
  · subst q; rw [st_c (by omega) (by omega) (by omega)]; exact (if_pos rfl).symm
  · rw [hN c q]
    funext k
    unfold st
    by_cases h1 : c = 401
    · rw [if_pos h1, if_pos h1]
    · rw [if_neg h1, if_neg h1]
      by_cases h3 : c = 403
      · rw [if_pos h3, if_pos h3]
      · rw [if_neg h3, if_neg h3]
        by_cases h0 : c = 400
        · rw [if_pos h0, if_pos h0]; rfl
        · rw [if_neg h0, if_neg h0]
          show M c k = (if c = 405 then N 405 else M c) k
          rw [if_neg q]
