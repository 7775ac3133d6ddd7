-- links of one trade
def sLq (w : Nat → Int) (t : Int) : Nat → Nat → Bool
  | 0, _ => false
  | k + 1, i => sNm w t i || sLq w t k (i + 1)
theorem sLq_s (w : Nat → Int) (t : Int) (k i : Nat) : sLq w t (k + 1) i = (sNm w t i || sLq w t k (i + 1)) := rfl
def sLd (w : Nat → Int) (t : Nat) : Bool := sLq w (t : Int) (w 1544).toNat 0
theorem c_lkd {M : xM} {w : Nat → Int} (hR : R M w) (hC : IC w) {t : Nat} (ht : t < 20) : fX1_isLinked 3 (102 + t) M = some (.inl (bi (sLd w t)), M) := by
  have c4 := hC.2.2.2.2.1
  have key : ∀ k i n, i + k = (w 1544).toNat → k < n → fX1_isLinked_2 3 (102 + t) n (i : Int) M = some (.inl (bi (sLq w (t : Int) k i)), M) := by
    intro k
    induction k with
    | zero =>
      intro i n hi hn
      obtain ⟨n', rfl⟩ : ∃ n', n = n' + 1 := ⟨n - 1, by omega⟩
      rw [fX1_isLinked_2, if_pos (by rw [hR.nK]; omega)]; rfl
    | succ k ih =>
      intro i n hi hn
      obtain ⟨n', rfl⟩ : ∃ n', n = n' + 1 := ⟨n - 1, by omega⟩
      have hl : (i : Int) < w 1544 := by omega
      rw [fX1_isLinked_2, if_neg (by rw [hR.nK]; omega), c_lnk (by omega), xb_l, Int.toNat_natCast, hR.tN ht, c_nm6 (hR.kfst (by omega) hl) (hR.ksnd (by omega) hl), xb_l, if_b0, w32_s (by omega), ih (i + 1) n' (by omega) (by omega)]
      rw [sLq_s]
      cases sNm w (t : Int) i <;> rfl
  unfold fX1_isLinked
  exact key (w 1544).toNat 0 xN (by omega) (by unfold xN; omega)
theorem m_lkd {M : xM} {w T : Nat → Int} {h : Int} (hC : IC w) {t : Nat} : fX12_linked 400 (t : Int) (st M w T h) = some (.inl (bi (sLd w t)), st M w T h) := by
  have c4 := hC.2.2.2.2.1
  have key : ∀ k i n b, i + k = (w 1544).toNat → k < n → fX12_linked_4 400 (t : Int) n (bi b) (i : Int) (st M w T h) = some (.inl (bi (b || sLq w (t : Int) k i)), st M w T h) := by
    intro k
    induction k with
    | zero =>
      intro i n b hi hn
      obtain ⟨n', rfl⟩ : ∃ n', n = n' + 1 := ⟨n - 1, by omega⟩
      rw [fX12_linked_4, xr_400_0, st_401, if_pos (by omega)]
      unfold sLq; rw [Bool.or_false]; rfl
    | succ k ih =>
      intro i n b hi hn
      obtain ⟨n', rfl⟩ : ∃ n', n = n' + 1 := ⟨n - 1, by omega⟩
      have e : ∀ s, fX12_linked_56 (fX12_linked_4 400 (t : Int) n') 400 (t : Int) (i : Int) (bi s) (bi b) (st M w T h) = some (.inl (bi ((b || s) || sLq w (t : Int) k (i + 1))), st M w T h) := fun s => by
        unfold fX12_linked_56
        rw [xor_bi, w32_s (by omega)]
        exact ih (i + 1) n' (b || s) (by omega) (by omega)
      have f0 : fX12_linked_56 (fX12_linked_4 400 (t : Int) n') 400 (t : Int) (i : Int) 0 (bi b) (st M w T h) = _ := e false
      have f1 : fX12_linked_56 (fX12_linked_4 400 (t : Int) n') 400 (t : Int) (i : Int) 1 (bi b) (st M w T h) = _ := e true
      rw [fX12_linked_4, xr_400_0, st_401, if_neg (by omega)]
      unfold fX12_linked_51
      simp (disch := omega) only [w32_i, xix_t, tn_add, Int.toNat_natCast, Int.reduceToNat]
      rw [f0, f1, sLq_s]
      unfold sNm
      by_cases z : w (890 + i) = (t : Int)
      · rw [if_pos z, decide_eq_true z, Bool.true_or, Bool.true_or, Bool.or_true, Bool.true_or]
      · rw [if_neg z, decide_eq_false z, Bool.false_or]
        by_cases y : w (900 + i) = (t : Int)
        · rw [if_pos y, decide_eq_true y, Bool.true_or, Bool.or_true, Bool.true_or]
        · rw [if_neg y, decide_eq_false y, Bool.false_or, Bool.or_false]
  unfold fX12_linked
  exact key (w 1544).toNat 0 xN false (by omega) (by unfold xN; omega)
-- one trade's shift
theorem pm_y {j : Nat} (h : (30 ≤ j ∧ j < 50) ∨ (80 ≤ j ∧ j < 90)) : pm j = true := by
  unfold pm
  simp only [Bool.or_eq_true, Bool.and_eq_true, decide_eq_true_eq]; exact h
theorem hb_dT {x : Nat → Int} (h0 : Inv0 x) {t : Nat} (f : TF x t) {u a : Int} (h : 0 ≤ u ∧ u ≤ 59049000000) {b : Nat} (hb1 : b < 10) : hb (wA x (dT x t u a)) b := fun s hs => by
  have kq := KQ_le x
  have la := h0.2.2.2.1.le hb1 hs
  have p := (h0.2.2.1.1 s hs).2.1
  have d := dT_b (w := x) (t := t) (a := a) h.1 (j := 100 + 4 * b + s) (by omega) f
  rw [wA_c (cel_t (by omega)), wA_n (by omega), wA_n (by omega), w64_i (by omega) (by omega)]
  omega
theorem Inv0.one {x : Nat → Int} (h0 : Inv0 x) (hq : CQ x) {t : Nat} (ht : (t : Int) < x 1543) {u a : Int} (h : 0 ≤ u ∧ u ≤ x (100 + 4 * dl x t + pp x t) - x (140 + 4 * dl x t + pp x t)) : Inv0 (wA x (dT x t u a)) := by
  have f := h0.tf ht
  have p := h0.dlA ht
  obtain ⟨f0, -, -, d1, r1, p1, -, -, -, -, -, ne⟩ := id f
  have i1 := h0.mvu p.1 p.2.1 p.2.2 h.1 h.2
  have ee : ups (ups (wU x (dl x t) (rc x t) (pp x t) u) (30 + dl x t) (w64 (x (30 + dl x t) + a))) (30 + rc x t) (w64 (x (30 + rc x t) - a)) = wA x (dT x t u a) := by
    rw [wA_ups hq f u a]
    unfold wU
    rw [ups_ne (i := 100 + 4 * rc x t + pp x t) (by omega)]
  rw [← ee]
  exact i1.pm (((eqo.refl _ _).up (pm_y (by omega))).up (pm_y (by omega)))
theorem IM.one {N : Int} {x : Nat → Int} (hM : IM N x) (hN0 : 0 ≤ N) (hN : N ≤ 4000000000000000000) {t : Nat} (f : TF x t) {u a : Int} (h : 0 ≤ a ∧ a ≤ 100000000) : IM (N + 100000000) (wA x (dT x t u a)) := fun b hb => by
  have k := hM b hb
  have d1 := f.2.2.2.1
  have r1 := f.2.2.2.2.1
  rw [wA_c (cel_t (by omega)), wA_c (cel_t (by omega)), wA_n (by omega), dT_c f (by omega) (by omega), dT_c f (by omega) (by omega), if_neg (c := 40 + b = 30 + dl x t) (by omega), if_neg (c := 40 + b = 30 + rc x t) (by omega), w64_i (x := x (40 + b) + 0) (by omega) (by omega)]
  have : -100000000 ≤ (if 30 + b = 30 + dl x t then a else if 30 + b = 30 + rc x t then -a else 0) ∧ (if 30 + b = 30 + dl x t then a else if 30 + b = 30 + rc x t then -a else 0) ≤ 100000000 := by
    split
    · omega
    · split <;> omega
  rw [w64_i (by omega) (by omega)]; omega
theorem Inv0.tua {w : Nat → Int} (h : Inv0 w) {t : Nat} (ht : (t : Int) < w 1543) {u a : Int} (hu : 1 ≤ u ∧ u ≤ KQ w) (ha : 0 ≤ a ∧ a ≤ 100000000) : Inv0 (ups (ups w (770 + t) u) (790 + t) a) := by
  obtain ⟨hC, hA, hS, hH, hI, hT, hK, hL, hE⟩ := h
  have c3 := hC.2.2.2.1
  have ne : ∀ j, j ≠ 770 + t → j ≠ 790 + t → ups (ups w (770 + t) u) (790 + t) a j = w j := fun j h1 h2 => by rw [ups_ne h2, ups_ne h1]
  refine ⟨hC.fr (fun j _ _ => ne j (by omega) (by omega)), hA.fr hC (fun j _ => ne j (by omega) (by omega)), hS.fr (fun j _ => ne j (by omega) (by omega)), hH.fr (fun j _ => ne j (by omega) (by omega)), hI.fr hC (fun j _ => ne j (by omega) (by omega)), fun v hv => ?_, hK.fr (fun j _ => ne j (by omega) (by omega)), hL.fr (fun j _ => ne j (by omega) (by omega)), hE.fr (fun j _ => ne j (by omega) (by omega))⟩
  have k := hT v hv
  have hKQ : KQ (ups (ups w (770 + t) u) (790 + t) a) = KQ w := KQ_eq (fun e he => ne _ (by omega) (by omega))
  have d1 : di (ups (ups w (770 + t) u) (790 + t) a) v = di w v := by unfold di; rw [ne _ (by omega) (by omega)]
  have d2 : ri (ups (ups w (770 + t) u) (790 + t) a) v = ri w v := by unfold ri; rw [ne _ (by omega) (by omega)]
  refine ⟨fun hl => ?_, fun hl => ?_⟩
  · rw [ne _ (by omega) (by omega)] at hl
    obtain ⟨k1, k2, k3, k4, k5, k6, k7, k8, k9, k10, k11, k12, k13, k14⟩ := k.1 hl
    have b1 : di w v < 40 := by unfold di; have := hC.2.2.1; omega
    have b2 : ri w v < 40 := by unfold ri; have := hC.2.2.1; omega
    rw [hKQ, d1, d2, ne (730 + v) (by omega) (by omega), ne (750 + v) (by omega) (by omega), ne (210 + di w v) (by omega) (by omega), ne (210 + ri w v) (by omega) (by omega), ne (810 + v) (by omega) (by omega), ne (830 + v) (by omega) (by omega), ne (850 + v) (by omega) (by omega), ne (870 + v) (by omega) (by omega), ne (570 + di w v) (by omega) (by omega), ne (570 + ri w v) (by omega) (by omega), ne (650 + di w v) (by omega) (by omega), ne (650 + ri w v) (by omega) (by omega), ne 1542 (by omega) (by omega), ne 1547 (by omega) (by omega)]
    refine ⟨k1, k2, k3, ?_, ?_, ?_, k7, k8, k9, k10, k11, k12, k13, k14⟩
    · by_cases z : v = t
      · subst z; rw [ups_ne (by omega), ups_same]; omega
      · rw [ne _ (by omega) (by omega)]; exact k4
    · by_cases z : v = t
      · subst z; rw [ups_ne (by omega), ups_same]; exact fun _ => hu.1
      · rw [ne _ (by omega) (by omega)]; exact k5
    · by_cases z : v = t
      · subst z; rw [ups_same]; exact ha
      · rw [ne _ (by omega) (by omega)]; exact k6
  · rw [ne _ (by omega) (by omega)] at hl
    rw [ne _ (by omega) (by omega), ne _ (by omega) (by omega)]; exact k.2 hl
