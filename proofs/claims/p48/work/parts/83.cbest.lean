-- the class's best set
def fh (M M' : xM) : Prop := ∀ x, x ≠ 395 → x ≠ 396 → x ≠ 397 → (x < 12 ∨ 52 ≤ x ∨ x % 4 = 2 ∨ x % 4 = 3) → M' x = M x
theorem fh.trans {M N P : xM} (h : fh M N) (h2 : fh N P) : fh M P := fun x a b c d => (h2 x a b c d).trans (h x a b c d)
theorem fg.h {M N : xM} (h : fg M N) : fh M N := fun x a _ _ d => h x a d
theorem c_bs {w : Nat → Int} {c : Nat → Nat} {q : Nat} (hc : CD w c q) (hB : BW w c q) {D : Nat → Int} : ∀ (j n : Nat) (M : xM), j ≤ 11 → j < n → R M (wA w D) → M 395 4 = (q : Int) → (∀ k, k < q → M 396 k = (c k : Int)) → (∀ i, j ≤ i → i ≤ 10 → M 397 i = re (gW w c) q i) → ∃ M', fX2_beginSearch_44 395 n (re (gW w c) q j) ((j : Int) - 1) M = some (.inl 0, M') ∧ (∀ i, i ≤ 10 → M' 397 i = re (gW w c) q i) ∧ ∀ x, x ≠ 397 → M' x = M x
  | _, 0, _, _, hn, _, _, _, _ => absurd hn (Nat.not_lt_zero _)
  | 0, n + 1, M, _, _, _, _, _, h7 => ⟨M, by rw [fX2_beginSearch_44, if_pos (by omega)]; rfl, fun i hi => h7 i (by omega) hi, fun _ _ => rfl⟩
  | j + 1, n + 1, M, hj, hn, hR, h4, h6, h7 => by
    have hq := hc.1
    have rb1 := sf_nn (f := fun k => decide (j ≤ k)) (g := gW w c) q (fun k hk => (hB.g hk).1)
    have rb2 := sf_le (f := fun k => decide (j ≤ k)) (g := gW w c) (B := 60000000000000) (by omega) q (fun k hk => (hB.g hk).2.1)
    have rb : 0 ≤ re (gW w c) q j ∧ re (gW w c) q j ≤ 600000000000000 := by unfold re; omega
    obtain ⟨M', a1, a2, a3⟩ := c_bs hc hB j n (xup M 397 j (re (gW w c) q j)) (by omega) (by omega) (hR.fr (fun x _ _ => xup_row (by omega))) (by rw [xup_c (by omega)]; exact h4) (fun k hk => by rw [xup_c (by omega)]; exact h6 k hk) (fun i h1 h2 => by
      by_cases z : i = j
      · rw [z, xup_same]
      · rw [xup_k z]; exact h7 i (by omega) h2)
    refine ⟨M', ?_, a2, fun x hx => by rw [a3 x hx, xup_row hx]⟩
    have e70 : ∀ s, w64 (re (gW w c) q (j + 1) + s) = re (gW w c) q j → fX2_beginSearch_70 (fX2_beginSearch_44 395 n) 395 (j : Int) s (re (gW w c) q (j + 1)) M = some (.inl 0, M') := fun s hs => by
      unfold fX2_beginSearch_70
      rw [xlet_b, hs, xix_t (by omega) (by omega), xr_395_2, xput_b, Int.toNat_natCast, w32_i (by omega) (by omega)]
      exact a1
    rw [fX2_beginSearch_44, show (((j + 1 : Nat) : Int) - 1) = (j : Int) by omega, if_neg (by omega), h4]
    by_cases z : (q : Int) ≤ (j : Int)
    · rw [if_pos z]
      refine e70 0 ?_
      rw [Int.add_zero, re_q _ _ _ (show q ≤ j + 1 by omega), re_q _ _ _ (show q ≤ j by omega)]; rfl
    · obtain ⟨ft, -, -⟩ := hB.1 j (by omega)
      rw [if_neg z, c_cnd (by omega) (by have := ft.1; omega) (h6 j (by omega)), xb_l, Int.toNat_natCast, c_worth hB (by omega) (hc.2.1 j (by omega)).1 hR, xb_l]
      refine e70 _ ?_
      rw [← re_s _ _ _ (by omega)]; exact w64_i (by omega) (by omega)
theorem Inv0.bw {w : Nat → Int} (h0 : Inv0 w) {nT m : Nat} {c : Nat → Nat} (hn : w 1543 = (nT : Int)) (hC : CS w nT c m) : CD w c (min m 10) ∧ BW w c (min m 10) := by
  obtain ⟨-, -, hS, hH, -, hT, -⟩ := id h0
  have kq := KQ_le w
  refine ⟨⟨by omega, fun k hk => ?_, fun i j hi hj e => hC.inj (by omega) (by omega) e⟩, fun k hk => ?_, fun s hs => (hS.1 s hs).2.1, fun a s ha hs => ?_⟩
  · have x := hC.2.1 k (by omega)
    refine ⟨by omega, ?_⟩
    have y := x.2
    unfold sEl sDue at y
    rw [Bool.and_eq_true, Bool.and_eq_true, decide_eq_true_eq] at y
    exact y.1.1
  · have x := (hC.2.1 k (by omega)).1
    have f := h0.tf (t := c k) (by omega)
    obtain ⟨-, -, -, t4, -, t6, -⟩ := (hT (c k) f.1).1 (by omega)
    exact ⟨f, by omega, t6⟩
  · have := hH.le ha hs
    omega
theorem Inv0.rk {w : Nat → Int} (h0 : Inv0 w) : RK w := fun t ht z => by
  obtain ⟨hC, -, -, -, -, hT, -⟩ := h0
  have c7 := hC.2.2.2.2.2.2.2
  obtain ⟨-, -, -, -, -, -, t7, -, t9, -⟩ := (hT t ht).1 z
  omega
theorem DA_e0 {w : Nat → Int} {c : Nat → Nat} {q : Nat} (h : CQ w) : wA w (DA w c e0 q) = w := wA_0 h (fun _ => sf_e0 _ q)
/-- the search stands at its beginning -/
def BG (w : Nat → Int) (c : Nat → Nat) (q : Nat) (M : xM) : Prop := DX w c q M e0 ∧ BX w c q M e0 ∧ ∀ i, i ≤ 10 → M 397 i = re (gW w c) q i
theorem pS_e0 (c : Nat → Nat) (t : Nat) : ∀ n, pS c e0 n t = false
  | 0 => rfl
  | n + 1 => by
    show (pS c e0 n t || (false && decide (c n = t))) = false
    rw [pS_e0 c t n]; rfl
theorem c_begin {M : xM} {w : Nat → Int} (hR : R M w) (h0 : Inv0 w) (hq : CQ w) (hK : RK w) {nT : Nat} (hn : w 1543 = (nT : Int)) : ∃ M' c m, fX2_beginSearch 395 M = some (.inl 0, M') ∧ CS w nT c m ∧ BG w c (min m 10) M' ∧ fh M M' := by
  obtain ⟨M1, c, m, a1, a2, a3, a4, a5, a6⟩ := c_cands hR h0.lt h0.2.2.2.2.1.hf hK hn
  obtain ⟨hc, hB⟩ := h0.bw hn a2
  have R1 : R M1 w := hR.fr (fun x _ _ => a6 x (by omega) (by omega))
  have R2 : R (xup (xup (xup (xup (xup (xup M1 395 5 0) 395 6 0) 395 7 0) 395 8 0) 395 9 0) 395 10 0) w := R1.fr (fun x _ _ => by rw [xup_row (by omega), xup_row (by omega), xup_row (by omega), xup_row (by omega), xup_row (by omega), xup_row (by omega)])
  have e0' : re (gW w c) (min m 10) 11 = 0 := re_q _ _ _ (by omega)
  obtain ⟨M2, b1, b2, b3⟩ := c_bs (D := DA w c e0 (min m 10)) hc hB 11 xN (xup (xup (xup (xup (xup (xup M1 395 5 0) 395 6 0) 395 7 0) 395 8 0) 395 9 0) 395 10 0) (by omega) (by unfold xN; omega) (by rw [DA_e0 hq]; exact R2) (by rw [xup_k (by omega), xup_k (by omega), xup_k (by omega), xup_k (by omega), xup_k (by omega), xup_k (by omega)]; exact a4) (fun k hk => by rw [xup_c (by omega), xup_c (by omega), xup_c (by omega), xup_c (by omega), xup_c (by omega), xup_c (by omega)]; exact a3 k (by omega)) (fun i h1 h2 => by omega)
  have z : ∀ k, 5 ≤ k → k ≤ 10 → M2 395 k = 0 := fun k h1 h2 => by
    rw [b3 395 (by omega)]
    by_cases x : k = 10
    · rw [x, xup_same]
    · rw [xup_k x]
      by_cases x : k = 9
      · rw [x, xup_same]
      · rw [xup_k x]
        by_cases x : k = 8
        · rw [x, xup_same]
        · rw [xup_k x]
          by_cases x : k = 7
          · rw [x, xup_same]
          · rw [xup_k x]
            by_cases x : k = 6
            · rw [x, xup_same]
            · rw [xup_k x, show k = 5 by omega, xup_same]
  have bits : R32 (0 : Int) ∧ ∀ t, t < 20 → bb 0 t = pS c e0 (min m 10) t := ⟨by decide, fun t ht => by rw [bb_0 t (by omega), pS_e0]⟩
  refine ⟨M2, c, m, ?_, a2, ⟨⟨?_, ?_, ?_, ?_, ?_, fun k hk => ?_⟩, ⟨?_, ?_, ?_⟩, b2⟩, fun x x1 x2 x3 _ => ?_⟩
  · unfold fX2_beginSearch
    rw [a1, xb_l, xput_b, xput_b, xput_b, xput_b, xput_b, xput_b, xlet_b]
    rw [e0'] at b1
    exact b1
  · rw [DA_e0 hq]; exact R2.fr (fun x _ _ => b3 x (by omega))
  · rw [z 5 (by omega) (by omega)]; exact bits
  · rw [z 6 (by omega) (by omega)]; exact (sf_e0 _ _).symm
  · rw [z 7 (by omega) (by omega)]; exact (sf_e0 _ _).symm
  · rw [b3 395 (by omega), xup_k (by omega), xup_k (by omega), xup_k (by omega), xup_k (by omega), xup_k (by omega), xup_k (by omega)]; exact a4
  · rw [b3 396 (by omega), xup_c (by omega), xup_c (by omega), xup_c (by omega), xup_c (by omega), xup_c (by omega), xup_c (by omega)]; exact a3 k (by omega)
  · rw [z 8 (by omega) (by omega)]; exact bits
  · rw [z 9 (by omega) (by omega)]; exact (sf_e0 _ _).symm
  · rw [z 10 (by omega) (by omega)]; exact (sf_e0 _ _).symm
  · rw [b3 x x3, xup_row x1, xup_row x1, xup_row x1, xup_row x1, xup_row x1, xup_row x1, a6 x x1 x2]
theorem c_best {M : xM} {w : Nat → Int} (hR : R M w) (h0 : Inv0 w) (hq : CQ w) (hK : RK w) {nT : Nat} (hn : w 1543 = (nT : Int)) : ∃ M' c m r, fX2_bestByBranches 395 M = some (.inl (Wf w c (min m 10) r), M') ∧ CS w nT c m ∧ R M' w ∧ (∀ k, k < min m 10 → M' 396 k = (c k : Int)) ∧ M' 395 4 = ((min m 10 : Nat) : Int) ∧ BX w c (min m 10) M' r ∧ MX (Wf w c (min m 10)) (Cf (min m 10)) (may w c (min m 10)) (min m 10) 0 r ∧ fh M M' := by
  obtain ⟨M1, c, m, a1, a2, ⟨a3, a4, a5⟩, a6⟩ := c_begin hR h0 hq hK hn
  obtain ⟨hc, hB⟩ := h0.bw hn a2
  have hKX : KX w := ⟨h0.1, h0.2.2.2.2.2.2.1⟩
  obtain ⟨M2, b1, b2, b3, b4⟩ := c_choose hc hB hKX (min m 10) 0 12 M1 e0 e0 (by omega) (by omega) (FF.e0 0) a3 a4 a5
  have hO := OW.mk hB hc.1
  have mx := dfs_ok (p := may w c (min m 10)) hO (min m 10) 0 e0 e0 (by omega) (FF.e0 0) MX.start
  rw [show rv e0 0 * 2 ^ (min m 10) = 0 from Nat.zero_mul _] at mx
  refine ⟨M2, c, m, _, ?_, a2, ?_, b2.2.2.2.2.2, b2.2.2.2.2.1, b3, mx, a6.trans b4.h⟩
  · unfold fX2_bestByBranches
    rw [a1, xb_l, show fX2_choose 12 395 0 M1 = _ from b1, xb_l, b3.2.2]; rfl
  · have := b2.1
    rw [DA_e0 hq] at this; exact this
-- all sets
theorem shl_2 : ∀ q : Nat, q < 11 → xshl 1 (q : Int) = ((2 ^ q : Nat) : Int) := by decide +kernel
theorem p2_le {q : Nat} (h : q ≤ 10) : 2 ^ q ≤ 1024 := Nat.pow_le_pow_right (show 0 < 2 by omega) (show q ≤ 10 from h)
def lo (f : Nat → Bool) (i : Nat) : Nat → Bool := fun k => f k && decide (k < i)
def hi (f : Nat → Bool) (i : Nat) : Nat → Bool := fun k => f k && decide (i ≤ k)
theorem lo_s (f : Nat → Bool) (i : Nat) : lo f (i + 1) = if f i then gs (lo f i) i else lo f i := by
  funext k
  unfold lo gs
  cases z : f i
  · rw [if_f]
    by_cases y : k = i
    · rw [y, z]; rfl
    · have : decide (k < i + 1) = decide (k < i) := by
        by_cases x : k < i
        · rw [decide_eq_true x, decide_eq_true (by omega)]
        · rw [decide_eq_false x, decide_eq_false (by omega)]
      rw [this]
  · rw [if_t]
    by_cases y : k = i
    · rw [y, z, decide_eq_true (show i < i + 1 by omega), decide_eq_true rfl, Bool.or_true]; rfl
    · have : decide (k < i + 1) = decide (k < i) := by
        by_cases x : k < i
        · rw [decide_eq_true x, decide_eq_true (by omega)]
        · rw [decide_eq_false x, decide_eq_false (by omega)]
      rw [this, decide_eq_false y, Bool.or_false]
theorem hi_s (f : Nat → Bool) (i : Nat) : hi f i = if f i then gs (hi f (i + 1)) i else hi f (i + 1) := by
  funext k
  unfold hi gs
  have e : k ≠ i → decide (i ≤ k) = decide (i + 1 ≤ k) := fun y => by
    by_cases x : i ≤ k
    · rw [decide_eq_true x, decide_eq_true (by omega)]
    · rw [decide_eq_false x, decide_eq_false (by omega)]
  cases z : f i
  · rw [if_f]
    by_cases y : k = i
    · rw [y, z]; rfl
    · rw [e y]
  · rw [if_t]
    by_cases y : k = i
    · rw [y, z, decide_eq_true (show i ≤ i by omega), decide_eq_true rfl, Bool.or_true]; rfl
    · rw [e y, decide_eq_false y, Bool.or_false]
theorem lo_0 (f : Nat → Bool) : lo f 0 = e0 := by
  funext k; unfold lo; rw [decide_eq_false (by omega), Bool.and_false]; rfl
theorem hi_0 (f : Nat → Bool) : hi f 0 = f := by
  funext k; unfold hi; rw [decide_eq_true (by omega), Bool.and_true]
theorem lo_q {f : Nat → Bool} {q : Nat} (h : FF q f) : lo f q = f := by
  funext k; unfold lo
  by_cases z : k < q
  · rw [decide_eq_true z, Bool.and_true]
  · rw [h k (by omega)]; rfl
theorem hi_q {f : Nat → Bool} {q : Nat} (h : FF q f) : hi f q = e0 := by
  funext k; unfold hi
  by_cases z : k < q
  · rw [decide_eq_false (by omega), Bool.and_false]; rfl
  · rw [h k (by omega)]; rfl
theorem c_tk {w : Nat → Int} {c : Nat → Nat} {q : Nat} (hc : CD w c q) (hB : BW w c q) {m : Nat} (hm : m < 1024) {r : Nat → Bool} (rc : Int → xM → xO) : ∀ (k i n : Nat) (M : xM), i + k = q → k < n → DX w c q M (hi (tb m) i) → BX w c q M r → ∃ M', fX2_bestOfAllSets_55 rc 395 (m : Int) n (i : Int) M = rc ((m + 1 : Nat) : Int) M' ∧ DX w c q M' (hi (tb m) q) ∧ BX w c q M' r ∧ fg M M'
  | _, _, 0, _, _, hn, _, _ => absurd hn (Nat.not_lt_zero _)
  | 0, i, n + 1, M, hi2, _, hD, hS => by
    have hiq : i = q := by omega
    subst hiq
    refine ⟨M, ?_, hD, hS, fg.refl M⟩
    rw [fX2_bestOfAllSets_55, if_pos (by rw [hD.2.2.2.2.1]; omega), w32_s (by omega)]
  | k + 1, i, n + 1, M, hi2, hn, hD, hS => by
    have hq := hc.1
    have ds := hD.2.2.2.2
    rw [fX2_bestOfAllSets_55, if_neg (by rw [ds.1]; omega), bb_bit _ i (by omega), bb_nat (by omega), if_b0]
    unfold fX2_bestOfAllSets_80
    rw [w32_s (by omega)]
    rw [hi_s] at hD
    cases z : m.testBit i
    · rw [show tb m i = false from z, if_f] at hD
      rw [if_f]
      exact c_tk hc hB hm rc k (i + 1) n M (by omega) (by omega) hD hS
    · rw [show tb m i = true from z, if_t] at hD
      obtain ⟨ft, -, -⟩ := hB.1 i (by omega)
      obtain ⟨M1, a1, a2, a3, a4⟩ := c_take hc hB (k := i) (by omega) (by unfold hi; rw [decide_eq_false (by omega), Bool.and_false]) hD hS
      obtain ⟨M2, b1, b2, b3, b4⟩ := c_tk hc hB hm rc k (i + 1) n M1 (by omega) (by omega) a2 a3
      refine ⟨M2, ?_, b2, b3, a4.trans b4⟩
      rw [if_t, c_cnd (by omega) (by have := ft.1; omega) (ds.2 i (by omega)), xb_l, Int.toNat_natCast, a1, xb_l]; exact b1
theorem c_pt {w : Nat → Int} {c : Nat → Nat} {q : Nat} (hc : CD w c q) (hB : BW w c q) (hK : KX w) {m : Nat} (hm : m < 2 ^ q) {r : Nat → Bool} (rc : Int → xM → xO) : ∀ (k i n : Nat) (M : xM), i + k = q → k < n → DX w c q M (lo (tb m) i) → BX w c q M r → ∃ M', fX2_bestOfAllSets_18 rc 395 (m : Int) n (i : Int) M = rc ((m + 1 : Nat) : Int) M' ∧ DX w c q M' e0 ∧ BX w c q M' (wk (Wf w c q) (Cf q) (may w c q) (tb m) r) ∧ fg M M'
  | _, _, 0, _, _, hn, _, _ => absurd hn (Nat.not_lt_zero _)
  | 0, i, n + 1, M, hi2, _, hD, hS => by
    have hiq : i = q := by omega
    subst hiq
    have hq := hc.1
    have p2 := p2_le hq
    have ds := hD.2.2.2.2
    rw [lo_q (tb_F hm)] at hD
    obtain ⟨M1, a1, a2, a3, a4⟩ := c_weigh hD hS hc hB hK
    obtain ⟨M2, b1, b2, b3, b4⟩ := c_tk hc hB (show m < 1024 by omega) rc i 0 xN M1 (by omega) (by unfold xN; omega) (by rw [hi_0]; exact a2) a3
    rw [hi_q (tb_F hm)] at b2
    refine ⟨M2, ?_, b2, b3, a4.trans b4⟩
    rw [fX2_bestOfAllSets_18, if_pos (by rw [ds.1]; omega), a1, xb_l]; exact b1
  | k + 1, i, n + 1, M, hi2, hn, hD, hS => by
    have hq := hc.1
    have p2 := p2_le hq
    have ds := hD.2.2.2.2
    have ls := lo_s (tb m) i
    rw [fX2_bestOfAllSets_18, if_neg (by rw [ds.1]; omega), bb_bit _ i (by omega), bb_nat (by omega), if_b0]
    unfold fX2_bestOfAllSets_43
    rw [w32_s (by omega)]
    cases z : m.testBit i
    · rw [show tb m i = false from z, if_f] at ls
      rw [← ls] at hD
      rw [if_f]
      exact c_pt hc hB hK hm rc k (i + 1) n M (by omega) (by omega) hD hS
    · rw [show tb m i = true from z, if_t] at ls
      obtain ⟨ft, -, -⟩ := hB.1 i (by omega)
      obtain ⟨M1, a1, a2, a3, a4⟩ := c_put hc hB (k := i) (by omega) (by unfold lo; rw [decide_eq_false (by omega), Bool.and_false]) hD hS
      rw [← ls] at a2
      obtain ⟨M2, b1, b2, b3, b4⟩ := c_pt hc hB hK hm rc k (i + 1) n M1 (by omega) (by omega) a2 a3
      refine ⟨M2, ?_, b2, b3, a4.trans b4⟩
      rw [if_t, c_cnd (by omega) (by have := ft.1; omega) (ds.2 i (by omega)), xb_l, Int.toNat_natCast, a1, xb_l]; exact b1
/-- the greatest worth of the sets below n -/
def MW (W : (Nat → Bool) → Int) (p : (Nat → Bool) → Bool) (q n : Nat) (r : Nat → Bool) : Prop := FF q r ∧ (r = e0 ∨ p r = true) ∧ ∀ m, m < n → p (tb m) = true → W (tb m) ≤ W r
theorem MW.s {W C : (Nat → Bool) → Int} {p : (Nat → Bool) → Bool} {q n : Nat} {r : Nat → Bool} (h : MW W p q n r) (hn : n < 2 ^ q) : MW W p q (n + 1) (wk W C p (tb n) r) := by
  obtain ⟨h1, h2, h3⟩ := h
  unfold wk
  split
  · rename_i z
    refine ⟨tb_F hn, Or.inr z.2, fun m hm hp => ?_⟩
    by_cases y : m = n
    · rw [y]; exact Int.le_refl _
    · have := h3 m (by omega) hp
      omega
  · rename_i z
    refine ⟨h1, h2, fun m hm hp => ?_⟩
    by_cases y : m = n
    · rw [y] at hp ⊢
      have : ¬ (W r < W (tb n)) := fun x => z ⟨Or.inl x, hp⟩
      omega
    · exact h3 m (by omega) hp
theorem MW.eq {W C : (Nat → Bool) → Int} {p : (Nat → Bool) → Bool} {q b : Nat} {r : Nat → Bool} (h : MW W p q (2 ^ q) r) (h2 : MM W C p q (2 ^ q) b) (h0 : ∀ f, FF q f → W e0 ≤ W f) : W r = W (tb b) := by
  have x1 : W (tb b) ≤ W r := by
    rcases h2.1.2 with y | y
    · rw [y, tb_0]; exact h0 r h.1
    · exact h.2.2 b h2.1.1 y
  have x2 : W r ≤ W (tb b) := by
    rcases h.2.1 with y | y
    · rw [y]; exact h0 _ (tb_F h2.1.1)
    · have := h2.2 (mk r q) (mk_lt q r) (Or.inr (by rw [mk_tb q r h.1]; exact y))
      rw [mk_tb q r h.1] at this
      unfold bet at this; omega
  omega
theorem c_all {w : Nat → Int} {c : Nat → Nat} {q : Nat} (hc : CD w c q) (hB : BW w c q) (hK : KX w) : ∀ (k i n : Nat) (M : xM) (r : Nat → Bool), i + k = 2 ^ q → k < n → DX w c q M e0 → BX w c q M r → MW (Wf w c q) (may w c q) q i r → ∃ M' r', fX2_bestOfAllSets_6 395 n (i : Int) M = some (.inl (Wf w c q r'), M') ∧ DX w c q M' e0 ∧ MW (Wf w c q) (may w c q) q (2 ^ q) r' ∧ fg M M'
  | _, _, 0, _, _, _, hn, _, _, _ => absurd hn (Nat.not_lt_zero _)
  | 0, i, n + 1, M, r, hi2, _, hD, hS, hM => by
    have hq := hc.1
    refine ⟨M, r, ?_, hD, by rw [← hi2]; exact hM, fg.refl M⟩
    rw [fX2_bestOfAllSets_6, hD.2.2.2.2.1, shl_2 q (by omega), if_pos (by omega), hS.2.2]; rfl
  | k + 1, i, n + 1, M, r, hi2, hn, hD, hS, hM => by
    have hq := hc.1
    obtain ⟨M1, a1, a2, a3, a4⟩ := c_pt hc hB hK (m := i) (by omega) (fX2_bestOfAllSets_6 395 n) q 0 xN M (by omega) (by unfold xN; omega) (by rw [lo_0]; exact hD) hS
    obtain ⟨M2, r', b1, b2, b3, b4⟩ := c_all hc hB hK k (i + 1) n M1 _ (by omega) (by omega) a2 a3 (hM.s (by omega))
    refine ⟨M2, r', ?_, b2, b3, a4.trans b4⟩
    rw [fX2_bestOfAllSets_6, hD.2.2.2.2.1, shl_2 q (by omega), if_neg (by omega), show fX2_bestOfAllSets_18 (fX2_bestOfAllSets_6 395 n) 395 (i : Int) xN 0 M = _ from a1]; exact b1
theorem c_bestAll {M : xM} {w : Nat → Int} (hR : R M w) (h0 : Inv0 w) (hq : CQ w) (hK : RK w) {nT : Nat} (hn : w 1543 = (nT : Int)) : ∃ M' c m r, fX2_bestOfAllSets 395 M = some (.inl (Wf w c (min m 10) r), M') ∧ CS w nT c m ∧ R M' w ∧ MW (Wf w c (min m 10)) (may w c (min m 10)) (min m 10) (2 ^ (min m 10)) r ∧ fh M M' := by
  obtain ⟨M1, c, m, a1, a2, ⟨a3, a4, a5⟩, a6⟩ := c_begin hR h0 hq hK hn
  obtain ⟨hc, hB⟩ := h0.bw hn a2
  have hKX : KX w := ⟨h0.1, h0.2.2.2.2.2.2.1⟩
  have p2 := p2_le hc.1
  obtain ⟨M2, r, b1, b2, b3, b4⟩ := c_all hc hB hKX (2 ^ (min m 10)) 0 xN M1 e0 (by omega) (by unfold xN; omega) a3 a4 ⟨FF.e0 _, Or.inl rfl, fun m hm => absurd hm (Nat.not_lt_zero _)⟩
  refine ⟨M2, c, m, r, ?_, a2, ?_, b3, a6.trans b4.h⟩
  · unfold fX2_bestOfAllSets
    rw [a1, xb_l]; exact b1
  · have := b2.1
    rw [DA_e0 hq] at this; exact this
