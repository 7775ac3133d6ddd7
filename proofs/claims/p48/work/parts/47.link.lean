def sNm (w : Nat → Int) (x : Int) (k : Nat) : Bool := decide (w (890 + k) = x) || decide (w (900 + k) = x)
theorem c_names {M : xM} {w : Nat → Int} (hR : R M w) {k : Nat} (hk : k < 10) (hl : (k : Int) < w 1544) (x : Int) : fX6_names (123 + k) x M = some (.inl (bi (sNm w x k)), M) := by
  unfold fX6_names fX6_names_16 sNm
  rw [hR.kfst hk hl, hR.ksnd hk hl]
  by_cases h1 : w (890 + k) = x
  · rw [if_pos h1, decide_eq_true h1]; rfl
  · rw [if_neg h1, decide_eq_false h1]
    by_cases h2 : w (900 + k) = x
    · rw [if_pos h2, decide_eq_true h2]; rfl
    · rw [if_neg h2, decide_eq_false h2]; rfl
def sLk (w : Nat → Int) (x y : Int) : Nat → Nat → Bool
  | 0, _ => false
  | k + 1, i => (sNm w x i && sNm w y i) || sLk w x y k (i + 1)
theorem sLk_s (w : Nat → Int) (x y : Int) (k i : Nat) : sLk w x y (k + 1) i = ((sNm w x i && sNm w y i) || sLk w x y k (i + 1)) := rfl
theorem c_lko_l {M : xM} {w : Nat → Int} (hR : R M w) (h0 : 0 ≤ w 1544) (h1 : w 1544 ≤ 10) (x y : Int) : ∀ (k i n : Nat), i + k = (w 1544).toNat → k < n → fX1_isLinkOf_2 3 x y n (i : Int) M = some (.inl (bi (sLk w x y k i)), M)
  | _, _, 0, _, hn => absurd hn (Nat.not_lt_zero _)
  | 0, i, n + 1, hi, _ => by
    rw [fX1_isLinkOf_2, if_pos (by rw [hR.nK]; omega)]; rfl
  | k + 1, i, n + 1, hi, hn => by
    have ih := c_lko_l hR h0 h1 x y k (i + 1) n (by omega) (by omega)
    rw [fX1_isLinkOf_2, if_neg (by rw [hR.nK]; omega), c_lnk (by omega), xb_l, Int.toNat_natCast, c_names hR (by omega) (by omega), xb_l, if_b0]
    unfold fX1_isLinkOf_36
    rw [w32_s (by omega), ih, sLk_s]
    cases sNm w x i
    · rfl
    · rw [if_t, c_lnk (by omega), xb_l, Int.toNat_natCast, c_names hR (by omega) (by omega), xb_l, if_b0]
      cases sNm w y i
      · rw [if_f, ih]; rfl
      · rfl
theorem c_lko {M : xM} {w : Nat → Int} (hR : R M w) (h0 : 0 ≤ w 1544) (h1 : w 1544 ≤ 10) (x y : Int) : fX1_isLinkOf 3 x y M = some (.inl (bi (sLk w x y (w 1544).toNat 0)), M) := by
  unfold fX1_isLinkOf
  exact c_lko_l hR h0 h1 x y _ 0 xN (by omega) (by unfold xN; omega)
def sLm (w : Nat → Int) (x y : Int) : Nat → Nat → Bool
  | 0, _ => false
  | k + 1, i => ((decide (w (890 + i) = x) && decide (w (900 + i) = y)) || (decide (w (890 + i) = y) && decide (w (900 + i) = x))) || sLm w x y k (i + 1)
theorem sLm_s (w : Nat → Int) (x y : Int) (k i : Nat) : sLm w x y (k + 1) i = (((decide (w (890 + i) = x) && decide (w (900 + i) = y)) || (decide (w (890 + i) = y) && decide (w (900 + i) = x))) || sLm w x y k (i + 1)) := rfl
theorem xor_bt (c : Bool) : xor32 (bi c) 1 = bi (c || true) := by cases c <;> decide
theorem xor_bf (c : Bool) : xor32 (bi c) 0 = bi (c || false) := by cases c <;> decide
theorem sLm_eq {w : Nat → Int} {x y : Int} (hxy : x ≠ y) : ∀ k i, sLm w x y k i = sLk w x y k i
  | 0, _ => rfl
  | k + 1, i => by
    rw [sLm_s, sLk_s, sLm_eq hxy k (i + 1)]
    unfold sNm
    by_cases a : w (890 + i) = x
    · have a2 : ¬ w (890 + i) = y := fun z => hxy (a.symm.trans z)
      by_cases b : w (900 + i) = y
      · have b2 : ¬ w (900 + i) = x := fun z => hxy (z.symm.trans b)
        simp [a, b, hxy, Ne.symm hxy]
      · simp [a, b, hxy]
    · by_cases b : w (890 + i) = y
      · by_cases d : w (900 + i) = x
        · simp [b, d, hxy, Ne.symm hxy]
        · simp [b, d, Ne.symm hxy]
      · by_cases d : w (900 + i) = x
        · have d2 : ¬ w (900 + i) = y := fun z => hxy (d.symm.trans z)
          simp [a, b, d2]
        · simp [a, b, d]
theorem m_lko_l {M : xM} (h0 : 0 ≤ M 401 1544) (h1 : M 401 1544 ≤ 10) (x y b z : Int) : ∀ (k i n : Nat) (c : Bool), i + k = (M 401 1544).toNat → k < n → fX12_link_29 400 x y b z n (bi c) (i : Int) M = fX12_link_29 400 x y b z 1 (bi (c || sLm (M 401) x y k i)) (M 401 1544) M
  | _, _, 0, _, _, hn => absurd hn (Nat.not_lt_zero _)
  | 0, i, n + 1, c, hi, _ => by
    have e : (i : Int) = M 401 1544 := by omega
    rw [sLm, Bool.or_false, e, fX12_link_29, fX12_link_29, xr_400_0, if_pos (Int.le_refl _), if_pos (Int.le_refl _)]
  | k + 1, i, n + 1, c, hi, hn => by
    have ih := fun c => m_lko_l h0 h1 x y b z k (i + 1) n c (by omega) (by omega)
    rw [fX12_link_29, xr_400_0, if_neg (by omega)]
    unfold fX12_link_80 fX12_link_118 fX12_link_114 fX12_link_119
    simp (disch := omega) only [w32_i, xix_t, tn_add, Int.toNat_natCast, Int.reduceToNat, xr_400_0]
    rw [show (i : Int) + 1 = ((i + 1 : Nat) : Int) from by omega, xor_bt, xor_bf, ih, ih, sLm_s]
    by_cases a1 : M 401 (890 + i) = x
    · by_cases a2 : M 401 (900 + i) = y
      · by_cases a3 : M 401 (890 + i) = y
        · by_cases a4 : M 401 (900 + i) = x
          · simp only [if_pos a1, decide_eq_true a1, if_pos a2, decide_eq_true a2, if_pos a3, decide_eq_true a3, if_pos a4, decide_eq_true a4, Bool.and_true, Bool.and_false, Bool.or_true, Bool.or_false, Bool.true_or, Bool.false_or]
          · simp only [if_pos a1, decide_eq_true a1, if_pos a2, decide_eq_true a2, if_pos a3, decide_eq_true a3, if_neg a4, decide_eq_false a4, Bool.and_true, Bool.and_false, Bool.or_true, Bool.or_false, Bool.true_or, Bool.false_or]
        · by_cases a4 : M 401 (900 + i) = x
          · simp only [if_pos a1, decide_eq_true a1, if_pos a2, decide_eq_true a2, if_neg a3, decide_eq_false a3, if_pos a4, decide_eq_true a4, Bool.and_true, Bool.and_false, Bool.or_true, Bool.or_false, Bool.true_or, Bool.false_or]
          · simp only [if_pos a1, decide_eq_true a1, if_pos a2, decide_eq_true a2, if_neg a3, decide_eq_false a3, if_neg a4, decide_eq_false a4, Bool.and_true, Bool.and_false, Bool.or_true, Bool.or_false, Bool.true_or, Bool.false_or]
      · by_cases a3 : M 401 (890 + i) = y
        · by_cases a4 : M 401 (900 + i) = x
          · simp only [if_pos a1, decide_eq_true a1, if_neg a2, decide_eq_false a2, if_pos a3, decide_eq_true a3, if_pos a4, decide_eq_true a4, Bool.and_true, Bool.and_false, Bool.or_true, Bool.or_false, Bool.true_or, Bool.false_or]
          · simp only [if_pos a1, decide_eq_true a1, if_neg a2, decide_eq_false a2, if_pos a3, decide_eq_true a3, if_neg a4, decide_eq_false a4, Bool.and_true, Bool.and_false, Bool.or_true, Bool.or_false, Bool.true_or, Bool.false_or]
        · by_cases a4 : M 401 (900 + i) = x
          · simp only [if_pos a1, decide_eq_true a1, if_neg a2, decide_eq_false a2, if_neg a3, decide_eq_false a3, if_pos a4, decide_eq_true a4, Bool.and_true, Bool.and_false, Bool.or_true, Bool.or_false, Bool.true_or, Bool.false_or]
          · simp only [if_pos a1, decide_eq_true a1, if_neg a2, decide_eq_false a2, if_neg a3, decide_eq_false a3, if_neg a4, decide_eq_false a4, Bool.and_true, Bool.and_false, Bool.or_true, Bool.or_false, Bool.true_or, Bool.false_or]
    · by_cases a2 : M 401 (900 + i) = y
      · by_cases a3 : M 401 (890 + i) = y
        · by_cases a4 : M 401 (900 + i) = x
          · simp only [if_neg a1, decide_eq_false a1, if_pos a2, decide_eq_true a2, if_pos a3, decide_eq_true a3, if_pos a4, decide_eq_true a4, Bool.and_true, Bool.and_false, Bool.or_true, Bool.or_false, Bool.true_or, Bool.false_or]
          · simp only [if_neg a1, decide_eq_false a1, if_pos a2, decide_eq_true a2, if_pos a3, decide_eq_true a3, if_neg a4, decide_eq_false a4, Bool.and_true, Bool.and_false, Bool.or_true, Bool.or_false, Bool.true_or, Bool.false_or]
        · by_cases a4 : M 401 (900 + i) = x
          · simp only [if_neg a1, decide_eq_false a1, if_pos a2, decide_eq_true a2, if_neg a3, decide_eq_false a3, if_pos a4, decide_eq_true a4, Bool.and_true, Bool.and_false, Bool.or_true, Bool.or_false, Bool.true_or, Bool.false_or]
          · simp only [if_neg a1, decide_eq_false a1, if_pos a2, decide_eq_true a2, if_neg a3, decide_eq_false a3, if_neg a4, decide_eq_false a4, Bool.and_true, Bool.and_false, Bool.or_true, Bool.or_false, Bool.true_or, Bool.false_or]
      · by_cases a3 : M 401 (890 + i) = y
        · by_cases a4 : M 401 (900 + i) = x
          · simp only [if_neg a1, decide_eq_false a1, if_neg a2, decide_eq_false a2, if_pos a3, decide_eq_true a3, if_pos a4, decide_eq_true a4, Bool.and_true, Bool.and_false, Bool.or_true, Bool.or_false, Bool.true_or, Bool.false_or]
          · simp only [if_neg a1, decide_eq_false a1, if_neg a2, decide_eq_false a2, if_pos a3, decide_eq_true a3, if_neg a4, decide_eq_false a4, Bool.and_true, Bool.and_false, Bool.or_true, Bool.or_false, Bool.true_or, Bool.false_or]
        · by_cases a4 : M 401 (900 + i) = x
          · simp only [if_neg a1, decide_eq_false a1, if_neg a2, decide_eq_false a2, if_neg a3, decide_eq_false a3, if_pos a4, decide_eq_true a4, Bool.and_true, Bool.and_false, Bool.or_true, Bool.or_false, Bool.true_or, Bool.false_or]
          · simp only [if_neg a1, decide_eq_false a1, if_neg a2, decide_eq_false a2, if_neg a3, decide_eq_false a3, if_neg a4, decide_eq_false a4, Bool.and_true, Bool.and_false, Bool.or_true, Bool.or_false, Bool.true_or, Bool.false_or]
def gLn (w : Nat → Int) (t o : Nat) : Bool := (decide (w (870 + t) = 0) && decide (w (870 + o) = 0)) && (!(sLk w (t : Int) (o : Int) (w 1544).toNat 0) && decide (w 1544 < 10))
def wLn (w : Nat → Int) (k : Nat) (t o b : Int) : Nat → Int := ups (ups (ups (ups w (890 + k) t) (900 + k) o) (910 + k) b) 1544 ((k : Int) + 1)
def mLn (M : xM) (k : Nat) (t o b : Int) : xM := xup (xup (xup (xup M (123 + k) 0 t) (123 + k) 1 o) (123 + k) 2 b) 3 13 ((k : Int) + 1)
theorem cs_link {M : xM} {w : Nat → Int} (hR : R M w) (hC : IC w) (hT : IT w) (x y b : Int) : fX11_link 0 x y b M = if inb x (w 1543) then (if inb y (w 1543) then (if decide (x ≠ y) then (if gLn w x.toNat y.toNat then some (.inl (w 1544 + 1), mLn M (w 1544).toNat x y b) else some (.inr 2, M)) else some (.inr 1, M)) else some (.inr 0, M)) else some (.inr 0, M) := by
  unfold fX11_link fX11_link_20
  rw [c_needT hR]
  have hb := hC.2.2.2.1
  have hn := hC.2.2.2.2.1
  cases q : inb x (w 1543)
  · rfl
  · rw [if_t, if_t, xb_l, c_needT hR]
    cases q2 : inb y (w 1543)
    · rfl
    · obtain ⟨t, rfl, ht⟩ := inb_t q
      obtain ⟨o, rfl, ho⟩ := inb_t q2
      have kt := ((hT t (by omega)).1 ht).2.2.2.2.2.2.2.2.2.1
      have ko := ((hT o (by omega)).1 ho).2.2.2.2.2.2.2.2.2.1
      rw [if_t, if_t, xb_l]
      by_cases z : (t : Int) = (o : Int)
      · rw [if_pos z, decide_eq_false (not_not_intro z)]; rfl
      · rw [if_neg z, decide_eq_true z, if_t, c_arg1, xb_l, xr_0_1, c_trd (by omega), xb_l, Int.toNat_natCast, hR.tst (by omega), Int.toNat_natCast, Int.toNat_natCast]
        unfold fX11_link_57 fX11_link_58 gLn
        simp only [c_sta0, c_sta1, xb_l, xb_r]
        by_cases z1 : w (870 + t) = 0
        · rw [if_pos (show w (870 + t) + 1 = 1 by omega), decide_eq_true z1, c_trd (by omega), xb_l, Int.toNat_natCast, hR.tst (by omega)]
          by_cases z2 : w (870 + o) = 0
          · rw [if_pos (show w (870 + o) + 1 = 1 by omega), decide_eq_true z2, xr_0_1, c_lko hR hn.1 hn.2, xb_l, if_b0]
            unfold fX11_link_89 fX11_link_90
            simp only [c_sta0, c_sta1, xb_l, xb_r]
            cases q3 : sLk w (t : Int) (o : Int) (w 1544).toNat 0
            · rw [if_f, xr_0_1, hR.nK]
              by_cases z3 : 10 ≤ w 1544
              · rw [if_pos z3, decide_eq_false (by omega)]; rfl
              · have ek : w 1544 = (((w 1544).toNat : Nat) : Int) := by omega
                rw [if_neg z3, decide_eq_true (by omega), ek, c_lnk (by omega), xb_l, Int.toNat_natCast, Int.toNat_natCast]
                simp only [xput_b]
                simp (disch := omega) only [xup_c, hR.nK, w32_i, xup_same]
                unfold mLn
                rw [← ek]; rfl
            · rw [if_t]; rfl
          · rw [if_neg (show ¬ w (870 + o) + 1 = 1 by omega), decide_eq_false z2]; rfl
        · rw [if_neg (show ¬ w (870 + t) + 1 = 1 by omega), decide_eq_false z1]; rfl
theorem ms_link {M : xM} (hC : IC (M 401)) (hT : IT (M 401)) {b : Int} (hb1 : B01 b) (x y : Int) : fX12_link 400 x y b M = if inb x (M 401 1543) then (if inb y (M 401 1543) then (if decide (x ≠ y) then (if gLn (M 401) x.toNat y.toNat then some (.inl (M 401 1544 + 1), st M (wLn (M 401) (M 401 1544).toNat x y b) (M 403) 0) else some (.inl (-1), st M (M 401) (M 403) 3)) else some (.inl (-1), st M (M 401) (M 403) 2)) else some (.inl (-1), st M (M 401) (M 403) 1)) else some (.inl (-1), st M (M 401) (M 403) 1) := by
  unfold fX12_link fX12_link_20 fX12_link_21
  rw [m_isT x M hC, xb_l, if_b0]
  have hb := hC.2.2.2.1
  have hn := hC.2.2.2.2.1
  have hl : ∀ z : Int, fX12_link_29 400 x y b z xN 0 0 M = fX12_link_29 400 x y b z 1 (bi (sLm (M 401) x y (M 401 1544).toNat 0)) (M 401 1544) M := fun z => by
    have := m_lko_l hn.1 hn.2 x y b z (M 401 1544).toNat 0 xN false (by omega) (by unfold xN; omega)
    rw [Bool.false_or] at this; exact this
  have h0 : fX12_link_29 400 x y b 0 1 (bi (sLm (M 401) x y (M 401 1544).toNat 0)) (M 401 1544) M = some (.inl (-1), st M (M 401) (M 403) 1) := by
    rw [fX12_link_29, xr_400_0, if_pos (Int.le_refl _), if_pos rfl]
    unfold fX12_link_187 fX12_link_188 fX12_link_219
    rw [if_pos rfl, m_holds', xb_l]; rfl
  cases q : inb x (M 401 1543)
  · rw [if_f, if_f, hl, h0]
  · rw [if_t, if_t, m_isT y M hC, xb_l, if_b0]
    cases q2 : inb y (M 401 1543)
    · rw [if_f, if_f, hl, h0]
    · rw [if_t, if_t, hl]
      obtain ⟨t, rfl, ht⟩ := inb_t q
      obtain ⟨o, rfl, ho⟩ := inb_t q2
      have kt := ((hT t (by omega)).1 ht).2.2.2.2.2.2.2.2.2.1
      have ko := ((hT o (by omega)).1 ho).2.2.2.2.2.2.2.2.2.1
      have h2 : (t : Int) = (o : Int) → ∀ s : Int, fX12_link_188 400 (t : Int) (o : Int) b 1 s M = some (.inl (-1), st M (M 401) (M 403) 2) := fun z s => by
        unfold fX12_link_188 fX12_link_219
        rw [if_neg (by decide), if_pos z, m_holds', xb_l]; rfl
      have h3 : ¬ (t : Int) = (o : Int) → fX12_link_188 400 (t : Int) (o : Int) b 1 1 M = some (.inl (-1), st M (M 401) (M 403) 3) := fun z => by
        unfold fX12_link_188 fX12_link_219
        rw [if_neg (by decide), if_neg z, if_neg (by decide), m_holds', xb_l]; rfl
      have h4 : ¬ (t : Int) = (o : Int) → M 401 1544 < 10 → fX12_link_188 400 (t : Int) (o : Int) b 1 0 M = some (.inl (M 401 1544 + 1), st M (wLn (M 401) (M 401 1544).toNat (t : Int) (o : Int) b) (M 403) 0) := fun z z2 => by
        obtain ⟨k, hk⟩ := ex_nat hn.1
        unfold fX12_link_188 fX12_link_219 fX12_link_283
        rw [if_neg (by decide), if_neg z, if_pos rfl, m_holds', xb_l, if_b0, if_d0, xr_400_0, st_401, hk]
        simp (disch := omega) only [w32_i, xix_t, tn_add, Int.toNat_natCast, Int.reduceToNat, xlet_b, xput_b, st_w, st_401, ups_ne, w64_i, hk]
        unfold wLn
        rcases hb1 with rfl | rfl
        · rw [if_pos rfl]; rfl
        · rw [if_neg (by decide)]; rfl
      rw [fX12_link_29, xr_400_0, if_pos (Int.le_refl _), if_neg (by decide), Int.toNat_natCast, Int.toNat_natCast]
      unfold fX12_link_187 fX12_link_183
      simp (disch := omega) only [w32_i, xix_t, tn_add, Int.toNat_natCast, Int.reduceToNat, if_b0]
      by_cases z : (t : Int) = (o : Int)
      · rw [decide_eq_false (not_not_intro z), if_f]
        simp only [h2 z, ite_self]
      · rw [h3 z, decide_eq_true z, sLm_eq z, if_t]
        unfold gLn
        by_cases z1 : M 401 (870 + t) = 0
        · rw [if_neg (show ¬ 0 < M 401 (870 + t) by omega), decide_eq_true z1]
          by_cases z2 : M 401 (870 + o) = 0
          · rw [if_neg (show ¬ 0 < M 401 (870 + o) by omega), decide_eq_true z2]
            cases sLk (M 401) (t : Int) (o : Int) (M 401 1544).toNat 0
            · rw [if_f]
              by_cases z3 : M 401 1544 = 10
              · rw [if_pos z3, decide_eq_false (by omega)]; rfl
              · rw [if_neg z3, decide_eq_true (by omega), h4 z (by omega)]; rfl
            · rw [if_t]; rfl
          · rw [if_pos (show 0 < M 401 (870 + o) by omega), decide_eq_false z2]; rfl
        · rw [if_pos (show 0 < M 401 (870 + t) by omega), decide_eq_false z1]; rfl
theorem MV.cell {M : xM} {w : Nat → Int} (h : MV M w) {c k : Nat} {v : Int} (h1 : ¬ (c = 3 ∧ k = 17)) (h2 : ∀ a : Nat, a < 10 → c ≠ 15 + 4 * a) (h3 : ∀ e : Nat, e < 10 → ¬ (c = 155 + 4 * e ∧ k = 9)) : MV (xup M c k v) w :=
  h.fr (xup_ne (fun z => h1 ⟨z.1.symm, z.2.symm⟩)) (fun a ha => xup_row (fun z => h2 a ha z.symm)) (fun e he => xup_ne (fun z => h3 e he ⟨z.1.symm, z.2.symm⟩)) (fun i _ _ => rfl) (fun e _ => rfl) (fun e _ _ => rfl) (fun i _ _ => rfl)
