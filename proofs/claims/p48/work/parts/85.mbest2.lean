-- the model's best set: worth, number, what is first
theorem sf_z {q : Nat} {f : Nat → Bool} (h : FF q f) (g : Nat → Int) : ∀ d, sf f g (q + d) = sf f g q
  | 0 => rfl
  | d + 1 => by rw [← Nat.add_assoc, sf_s, sf_z h g d, h (q + d) (by omega), if_f, Int.add_zero]
theorem m_wol {M : xM} {w T : Nat → Int} {h : Int} {c : Nat → Nat} {q m : Nat} (hC : CM M c q) (hc : CD w c q) (hB : BW w c q) : ∀ (k i n : Nat), i + k = q → k < n → fX12_worthOf_5 400 (m : Int) n (sf (tb m) (gW w c) i) (i : Int) (st M w T h) = some (.inl (Wf w c q (tb m)), st M w T h)
  | _, _, 0, _, hn => absurd hn (Nat.not_lt_zero _)
  | 0, i, n + 1, hi2, _ => by
    have hiq : i = q := by omega
    subst hiq
    rw [fX12_worthOf_5, st_k (by omega), hC.1, if_pos (by omega)]; rfl
  | k + 1, i, n + 1, hi2, hn => by
    have hq := hc.1
    obtain ⟨ft, u, a⟩ := hB.1 i (by omega)
    have g := hB.g (k := i) (by omega)
    have t20 := ft.1
    have b1 := sf_nn (f := tb m) (g := gW w c) i (fun k hk => (hB.g (k := k) (by omega)).1)
    have b2 := sf_le (f := tb m) (g := gW w c) (B := 60000000000000) (by omega) i (fun k hk => (hB.g (k := k) (by omega)).2.1)
    have ih := m_wol (m := m) (T := T) (h := h) hC hc hB k (i + 1) n (by omega) (by omega)
    rw [sf_s] at ih
    have e57 : ∀ s, s = (if tb m i then gW w c i else 0) → fX12_worthOf_57 (fX12_worthOf_5 400 (m : Int) n) 400 (m : Int) (i : Int) s (sf (tb m) (gW w c) i) (st M w T h) = some (.inl (Wf w c q (tb m)), st M w T h) := fun s hs => by
      unfold fX12_worthOf_57
      rw [xlet_b, w32_s (by omega), w64_i (by rw [hs]; split <;> omega) (by rw [hs]; split <;> omega), hs]; exact ih
    have mw := m_wor (M := st M w T h) (t := c i) (by rw [st_401]; exact ft)
    rw [st_401] at mw
    rw [fX12_worthOf_5, st_k (by omega), hC.1, if_neg (by omega), tb_bit (by omega), if_b1]
    cases y : tb m i
    · rw [if_f]; exact e57 0 (by rw [y]; rfl)
    · rw [if_t, xr_400_4, Int.toNat_natCast, st_c (c := 404) (by omega) (by omega) (by omega), hC.2 i (by omega)]
      simp (disch := omega) only [w32_i, xix_t, xr_400_0, tn_add, Int.toNat_natCast, Int.reduceToNat, st_401]
      rw [mw, xb_l]
      refine e57 _ ?_
      rw [y, if_t, w64_i (x := w (770 + c i) * w (184 + pp w (c i))) (by omega) (by omega)]
      unfold gW at g ⊢
      exact w64_i (by omega) (by omega)
theorem m_wo {M : xM} {w T : Nat → Int} {h : Int} {c : Nat → Nat} {q m : Nat} (hC : CM M c q) (hc : CD w c q) (hB : BW w c q) : fX12_worthOf 400 (m : Int) (st M w T h) = some (.inl (Wf w c q (tb m)), st M w T h) := by
  unfold fX12_worthOf
  exact m_wol hC hc hB q 0 xN (by omega) (by have := hc.1; unfold xN; omega)
theorem m_cntl {M : xM} {m : Nat} : ∀ (k i n : Nat), i + k = 10 → k < n → fX12_count_4 (m : Int) n (sf (tb m) (fun _ => 1) i) (i : Int) M = some (.inl (sf (tb m) (fun _ => 1) 10), M)
  | _, _, 0, _, hn => absurd hn (Nat.not_lt_zero _)
  | 0, i, n + 1, hi2, _ => by
    have hiq : i = 10 := by omega
    subst hiq
    rw [fX12_count_4, if_pos (by omega)]; rfl
  | k + 1, i, n + 1, hi2, hn => by
    have b1 := sf_nn (f := tb m) (g := fun _ => 1) i (fun k hk => by show (0 : Int) ≤ 1; omega)
    have b2 := sf_le (f := tb m) (g := fun _ => 1) (B := 1) (by omega) i (fun k hk => by show (1 : Int) ≤ 1; omega)
    have ih := m_cntl (M := M) (m := m) k (i + 1) n (by omega) (by omega)
    rw [sf_s] at ih
    rw [fX12_count_4, if_neg (by omega), tb_bit (by omega), xlet_b, w32_s (by omega), show bi (tb m i) = (if tb m i then 1 else 0) from rfl, w32_i (by split <;> omega) (by split <;> omega)]
    exact ih
theorem m_cnt {M : xM} {q m : Nat} (hq : q ≤ 10) (hm : m < 2 ^ q) : fX12_count 400 (m : Int) M = some (.inl (Cf q (tb m)), M) := by
  unfold fX12_count Cf
  have := m_cntl (M := M) (m := m) 10 0 xN (by omega) (by unfold xN; omega)
  obtain ⟨d, hd⟩ : ∃ d, 10 = q + d := ⟨10 - q, by omega⟩
  rw [hd, sf_z (tb_F hm)] at this
  exact this
theorem m_fst {M : xM} {q a b : Nat} (hq : q ≤ 10) (ha : a < 2 ^ q) (hb : b < 2 ^ q) : ∀ (k i n : Nat), i + k = 10 → k < n → (∀ j, j < i → tb a j = tb b j) → fX12_first_7 (a : Int) (xxor (a : Int) (b : Int)) n (i : Int) M = some (.inl (bi (decide (rv (tb b) q < rv (tb a) q))), M)
  | _, _, 0, _, hn, _ => absurd hn (Nat.not_lt_zero _)
  | 0, i, n + 1, hi2, _, hj => by
    have hiq : i = 10 := by omega
    subst hiq
    have e : rv (tb a) q = rv (tb b) q := rv_c q (fun k hk => hj k (by omega))
    rw [fX12_first_7, if_pos (by omega)]
    unfold fX12_first_29
    rw [tb_bit (by omega), if_b1, tb_F ha 10 hq, if_f, decide_eq_false (by omega)]; rfl
  | k + 1, i, n + 1, hi2, hn, hj => by
    rw [fX12_first_7, if_neg (by omega), bb_bit _ i (by omega), bb_xor, bb_nat (by omega), bb_nat (by omega), if_b0, show a.testBit i = tb a i from rfl, show b.testBit i = tb b i from rfl, w32_s (by omega)]
    unfold fX12_first_29
    rw [tb_bit (by omega), if_b1]
    have lt : ∀ x : Nat, tb x i = true → x < 2 ^ q → i < q := fun x hx hl => by
      by_cases z : i < q
      · exact z
      · have := tb_F hl i (by omega)
        rw [hx] at this; cases this
    by_cases z : tb a i = tb b i
    · have : (tb a i ^^ tb b i) = false := by rw [z]; exact Bool.xor_self _
      rw [this, if_f]
      exact m_fst hq ha hb k (i + 1) n (by omega) (by omega) (fun j h2 => by
        by_cases y : j = i
        · rw [y]; exact z
        · exact hj j (by omega))
    · cases x : tb a i
      · cases y : tb b i
        · rw [x, y] at z; exact absurd rfl z
        · have := rv_lt (f := tb b) (g := tb a) (lt b y hb) (fun j h2 => (hj j h2).symm) y x
          rw [decide_eq_false (by omega)]; rfl
      · cases y : tb b i
        · have := rv_lt (f := tb a) (g := tb b) (lt a x ha) hj x y
          rw [decide_eq_true (by omega)]; rfl
        · rw [x, y] at z; exact absurd rfl z
theorem m_bs {M : xM} {w T : Nat → Int} {h : Int} {c : Nat → Nat} {q : Nat} (hC : CM M c q) (hc : CD w c q) (hB : BW w c q) (hK : KX w) (hQ : CQ w) : ∀ (k i n b : Nat), i + k = 2 ^ q → 0 < i → k < n → MM (Wf w c q) (Cf q) (may w c q) q i b → ∃ b' : Nat, fX12_bestSet_4 400 n (b : Int) (i : Int) (st M w T h) = some (.inl (b' : Int), st M w T h) ∧ MM (Wf w c q) (Cf q) (may w c q) q (2 ^ q) b'
  | _, _, 0, _, _, _, hn, _ => absurd hn (Nat.not_lt_zero _)
  | 0, i, n + 1, b, hi2, _, _, hM => by
    have hq := hc.1
    refine ⟨b, ?_, by rw [← hi2]; exact hM⟩
    rw [fX12_bestSet_4, st_k (by omega), hC.1, shl_2 q (by omega), if_pos (by omega)]; rfl
  | k + 1, i, n + 1, b, hi2, h0, hn, hM => by
    have hq := hc.1
    have p2 := p2_le hq
    have hbl := hM.1.1
    have w1 := Wf_b hB hq (tb i)
    have w2 := Wf_b hB hq (tb b)
    have c1 := Cf_b hq (tb i)
    have c2 := Cf_b hq (tb b)
    have ff : fX12_first 400 (i : Int) (b : Int) (st M w T h) = some (.inl (bi (decide (rv (tb b) q < rv (tb i) q))), st M w T h) := m_fst hq (by omega) (by omega) 10 0 xN (by omega) (by unfold xN; omega) (fun j hj => absurd hj (Nat.not_lt_zero _))
    have stay : ¬ (bet (Wf w c q) (Cf q) q (tb i) (tb b) ∧ may w c q (tb i) = true) → ∃ b' : Nat, fX12_bestSet_94 (fX12_bestSet_4 400 n) 400 (b : Int) (i : Int) (st M w T h) = some (.inl (b' : Int), st M w T h) ∧ MM (Wf w c q) (Cf q) (may w c q) q (2 ^ q) b' := fun hno => by
      obtain ⟨b', e1, e2⟩ := m_bs (T := T) (h := h) hC hc hB hK hQ k (i + 1) n b (by omega) (by omega) (by omega) (hM.k h0 hno)
      refine ⟨b', ?_, e2⟩
      unfold fX12_bestSet_94 fX12_bestSet_95
      rw [w32_s (by omega)]; exact e1
    have no : ¬ bet (Wf w c q) (Cf q) q (tb i) (tb b) → ∃ b' : Nat, fX12_bestSet_74 (fX12_bestSet_4 400 n) 400 (b : Int) (i : Int) (st M w T h) = some (.inl (b' : Int), st M w T h) ∧ MM (Wf w c q) (Cf q) (may w c q) q (2 ^ q) b' := fun hno => by
      obtain ⟨b', e1, e2⟩ := stay (fun z => hno z.1)
      refine ⟨b', ?_, e2⟩
      unfold fX12_bestSet_74 fX12_bestSet_75
      rw [if_pos rfl]; exact e1
    have yes : bet (Wf w c q) (Cf q) q (tb i) (tb b) → ∃ b' : Nat, fX12_bestSet_70 (fX12_bestSet_4 400 n) 400 (b : Int) (i : Int) (st M w T h) = some (.inl (b' : Int), st M w T h) ∧ MM (Wf w c q) (Cf q) (may w c q) q (2 ^ q) b' := fun hy => by
      unfold fX12_bestSet_70 fX12_bestSet_75
      rw [if_neg (by decide), m_can hC hc hB hK hQ, xb_l, if_b0]
      cases z : may w c q (tb i)
      · rw [if_f]
        exact stay (fun y => by rw [z] at y; cases y.2)
      · rw [if_t]
        obtain ⟨b', e1, e2⟩ := m_bs (T := T) (h := h) hC hc hB hK hQ k (i + 1) n i (by omega) (by omega) (by omega) (hM.s hy z)
        refine ⟨b', ?_, e2⟩
        unfold fX12_bestSet_95
        rw [w32_s (by omega)]; exact e1
    rw [fX12_bestSet_4, st_k (by omega), hC.1, shl_2 q (by omega), if_neg (by omega), m_wo hC hc hB, xb_l, m_wo hC hc hB, xb_l, xlet_b, m_cnt hq (by omega), xb_l, m_cnt hq (by omega), xb_l, xlet_b, w64_i (by omega) (by omega), w32_i (by omega) (by omega), ff, xb_l, if_b0]
    by_cases z1 : 0 < Wf w c q (tb i) - Wf w c q (tb b)
    · rw [if_pos z1]; exact yes (by unfold bet; omega)
    · rw [if_neg z1]
      by_cases z2 : Wf w c q (tb i) - Wf w c q (tb b) = 0
      · rw [if_pos z2]
        by_cases z3 : 0 < Cf q (tb i) - Cf q (tb b)
        · rw [if_pos z3]; exact yes (by unfold bet; omega)
        · rw [if_neg z3]
          by_cases z4 : Cf q (tb i) - Cf q (tb b) = 0
          · rw [if_pos z4]
            by_cases z5 : rv (tb b) q < rv (tb i) q
            · rw [decide_eq_true z5, if_t]; exact yes (by unfold bet; omega)
            · rw [decide_eq_false z5, if_f]; exact no (by unfold bet; omega)
          · rw [if_neg z4]; exact no (by unfold bet; omega)
      · rw [if_neg z2]; exact no (by unfold bet; omega)
theorem m_bset {M : xM} {w T : Nat → Int} {h : Int} {c : Nat → Nat} {q : Nat} (hC : CM M c q) (hc : CD w c q) (hB : BW w c q) (hK : KX w) (hQ : CQ w) : ∃ b : Nat, fX12_bestSet 400 (st M w T h) = some (.inl (b : Int), st M w T h) ∧ MM (Wf w c q) (Cf q) (may w c q) q (2 ^ q) b := by
  have p2 := p2_le hc.1
  have p0 : 0 < 2 ^ q := Nat.pow_pos (by omega)
  unfold fX12_bestSet
  exact m_bs hC hc hB hK hQ (2 ^ q - 1) 1 xN 0 (by omega) (by omega) (by unfold xN; omega) ⟨⟨by omega, Or.inl rfl⟩, fun m hm _ => by
    rw [show m = 0 by omega]; unfold bet; omega⟩
theorem mn_st {M N : xM} {w T : Nat → Int} {h : Int} (g : mn (st M w T h) N) : ∃ M3, N = st M3 w T h ∧ gb M M3 ∧ M3 400 5 = N 400 5 ∧ M3 404 = N 404 := by
  refine ⟨fun c k => if c = 404 ∨ c = 405 ∨ (c = 400 ∧ k = 5) then N c k else M c k, ?_, fun c k a b d => if_neg (by omega), if_pos (by omega), ?_⟩
  · funext c k
    by_cases h1 : c = 401
    · rw [h1, g.1 401 (by omega) (by omega) (by omega)]; rfl
    · by_cases h3 : c = 403
      · rw [h3, g.1 403 (by omega) (by omega) (by omega)]; rfl
      · by_cases h0 : c = 400
        · rw [h0]
          by_cases h7 : k = 7
          · rw [h7, g.2 7 (by omega), st_7, st_7]
          · rw [st_k h7]
            by_cases h5 : k = 5
            · rw [h5, if_pos (by omega)]
            · rw [if_neg (by omega), g.2 k h5, st_k h7]
        · rw [st_c h0 h1 h3]
          by_cases h4 : c = 404 ∨ c = 405
          · rw [if_pos (by omega)]
          · rw [if_neg (by omega), g.1 c (by omega) (by omega) h0, st_c h0 h1 h3]
  · funext k; exact if_pos (Or.inl rfl)
theorem m_cands' {M : xM} {w T : Nat → Int} {h : Int} (hL : LT w) (hK : RK w) {nT m : Nat} {c : Nat → Nat} (hn : w 1543 = (nT : Int)) (hC : CS w nT c m) : ∃ M3, fX12_candidates 400 (st M w T h) = some (.inl 0, st M3 w T h) ∧ gb M M3 ∧ CM M3 c (min m 10) := by
  obtain ⟨N, g1, g2, g3, g4⟩ := m_cands hL hK hn hC (M := st M w T h) st_401
  obtain ⟨M3, k1, k2, k3, k4⟩ := mn_st g2
  exact ⟨M3, by rw [g1, k1], k2, by rw [k3]; exact g3, fun k hk => by rw [k4]; exact g4 k hk⟩
theorem m_best {M : xM} {w T : Nat → Int} (h0 : Inv0 w) (hQ : CQ w) {nT m : Nat} {c : Nat → Nat} (hn : w 1543 = (nT : Int)) (hC : CS w nT c m) (hw : M 401 = w) (hT : M 403 = T) : ∃ (M3 : xM) (b : Nat), fX12_best 400 M = some (.inl (Wf w c (min m 10) (tb b)), st M3 w T 0) ∧ gb M M3 ∧ MM (Wf w c (min m 10)) (Cf (min m 10)) (may w c (min m 10)) (min m 10) (2 ^ (min m 10)) b := by
  obtain ⟨hc, hB⟩ := h0.bw hn hC
  obtain ⟨M3, a1, a2, a3⟩ := m_cands' (M := M) (T := T) (h := 0) h0.lt h0.rk hn hC
  obtain ⟨b, b1, b2⟩ := m_bset (T := T) (h := 0) a3 hc hB ⟨h0.1, h0.2.2.2.2.2.2.1⟩ hQ
  refine ⟨M3, b, ?_, a2, b2⟩
  unfold fX12_best
  rw [m_holds', xb_l, hw, hT, a1, xb_l, b1, xb_l, m_wo a3 hc hB, xb_l]; rfl
theorem Inv0.cq {w : Nat → Int} (h0 : Inv0 w) {n : Int} (hM : IM n w) (hn : n ≤ 4000000000000000000) : CQ w := fun j hj => by
  have kq := KQ_le w
  have hj2 : (30 ≤ j ∧ j < 40) ∨ (40 ≤ j ∧ j < 50) ∨ (100 ≤ j ∧ j < 140) := by
    unfold cel at hj
    simp only [Bool.or_eq_true, Bool.and_eq_true, decide_eq_true_eq] at hj; omega
  rcases hj2 with ⟨h1, h2⟩ | ⟨h1, h2⟩ | ⟨h1, h2⟩
  · have := (hM (j - 30) (by omega)).1
    rw [show 30 + (j - 30) = j by omega] at this
    unfold R64; omega
  · have := (hM (j - 40) (by omega)).2.1
    rw [show 40 + (j - 40) = j by omega] at this
    unfold R64; omega
  · have := h0.2.2.2.1.le (a := (j - 100) / 4) (s := (j - 100) % 4) (by omega) (by omega)
    rw [show 100 + 4 * ((j - 100) / 4) + (j - 100) % 4 = j by omega] at this
    unfold R64; omega
