-- the end of a day
theorem turn_step {M : xM} {w T : Nat → Int} (hS : SS M w T) (h0 : Inv0 w) {e : Nat} (he : e < 10) (hl : (e : Int) < w 1546) (hY : IY (e : Int) w) {N : Int} (hM : IM N w) (hN0 : 0 ≤ N) (hN : N + 600000000000000 ≤ 4000000000000000000) : ∃ (M' : xM) (w' T' : Nat → Int), (∀ n, fX3_takeTurns_2 399 (n + 1) (e : Int) M = fX3_takeTurns_2 399 n ((e + 1 : Nat) : Int) M') ∧ SS M' w' T' ∧ fz M M' ∧ Inv0 w' ∧ IY ((e + 1 : Nat) : Int) w' ∧ IM (N + 600000000000000) w' ∧ (∀ (X : xM) (h : Int) (n : Nat), fX12_endDay_31 400 (n + 1) (e : Int) (st X w T h) = fX12_endDay_31 400 n ((e + 1 : Nat) : Int) (st X w' T' h)) ∧ w' 1546 = w 1546 ∧ w' 1547 = w 1547 ∧ QD w w' := by
  have kE := h0.2.2.2.2.2.2.2.2 e he
  have kd := (kE.1 hl).2.2.2.2.2
  have y := hY e he hl
  have b7 := kE.2.2.1
  have b8 := kE.2.2.2.1
  -- noted
  obtain ⟨M1, w1, a1, a2, a3, a4, a5, a6, a7, a8, a9⟩ : ∃ (M1 : xM) (w1 : Nat → Int), (∀ rc' : Int → xM → xO, (if (M (155 + 4 * e) 5) = (M 3 16) then xb (fX3_note 399 (155 + 4 * e) M) (fun z3 M4 => (fX3_takeTurns_41 rc' 399 (e : Int) (155 + 4 * e) M4)) else (fX3_takeTurns_41 rc' 399 (e : Int) (155 + 4 * e) M)) = fX3_takeTurns_41 rc' 399 (e : Int) (155 + 4 * e) M1) ∧ SS M1 w1 T ∧ fz M M1 ∧ Inv0 w1 ∧ (∀ (X : xM) (h : Int) (rc' : Int → xM → xO), (if w (1100 + e) = w 1547 then xb (fX12_note 400 (e : Int) (st X w T h)) (fun z1 M2 => (fX12_endDay_72 rc' 400 (e : Int) M2)) else (fX12_endDay_72 rc' 400 (e : Int) (st X w T h))) = fX12_endDay_72 rc' 400 (e : Int) (st X w1 T h)) ∧ evo w w1 ∧ (w1 (1120 + e) = 1 ↔ w (1100 + e) ≤ w 1547) ∧ (∀ x, x < 10 → x ≠ e → w1 (1120 + x) = w (1120 + x)) ∧ ∀ x, x < 10 → w1 (1130 + x) = w (1130 + x) := by
    by_cases q : w (1100 + e) = w 1547
    · have hu : w (1120 + e) = 0 := by
        rcases b7 with b | b
        · exact b
        · have := y.1.1 b; omega
      obtain ⟨M1, n1, n2, n3, n4, n5, n6, n7, n8, n9⟩ := note_step hS h0 he hl hu
      refine ⟨M1, wNo w e, fun rc' => by rw [hS.1.erec he, hS.1.day, if_pos q, n1, xb_l], n2, n3, n4, fun X h rc' => by rw [if_pos q, n5, xb_l], n6, ⟨fun _ => by omega, fun _ => n7⟩, n8, n9⟩
    · refine ⟨M, w, fun rc' => by rw [hS.1.erec he, hS.1.day, if_neg q], hS, fz.refl M, h0, fun X h rc' => by rw [if_neg q], fun _ _ => rfl, ?_, fun _ _ _ => rfl, fun _ _ => rfl⟩
      rw [y.1]; omega
  have hM1 : IM N w1 := hM.fr (fun j _ _ => a6 j (by omega))
  have e46 : w1 1546 = w 1546 := a6 1546 (by omega)
  have e47 : w1 1547 = w 1547 := a6 1547 (by omega)
  have e10 : w1 (1110 + e) = w (1110 + e) := a6 _ (by omega)
  have c41 : ∀ n, fX3_takeTurns_2 399 (n + 1) (e : Int) M = fX3_takeTurns_41 (fX3_takeTurns_2 399 n) 399 (e : Int) (155 + 4 * e) M1 := fun n => by
    rw [fX3_takeTurns_2, xr_399_0, if_neg (by rw [hS.1.nE]; omega), c_evt (by omega), xb_l, Int.toNat_natCast, a1]
  have m72 : ∀ (X : xM) (h : Int) (n : Nat), fX12_endDay_31 400 (n + 1) (e : Int) (st X w T h) = fX12_endDay_72 (fX12_endDay_31 400 n) 400 (e : Int) (st X w1 T h) := fun X h n => by
    rw [fX12_endDay_31, xr_400_0, st_401, if_neg (by omega)]
    simp (disch := omega) only [w32_i, xix_t, tn_add, Int.toNat_natCast, Int.reduceToNat]
    exact a5 X h _
  have yrest : ∀ w', (∀ x, x < 10 → x ≠ e → w' (1120 + x) = w1 (1120 + x) ∧ w' (1130 + x) = w1 (1130 + x)) → (w' (1120 + e) = 1 ↔ w (1100 + e) ≤ w 1547) → (w' (1130 + e) = 1 ↔ w (1110 + e) ≤ w 1547) → (∀ j, (1100 ≤ j ∧ j < 1120) ∨ j = 1546 ∨ j = 1547 → w' j = w j) → IY ((e + 1 : Nat) : Int) w' := fun w' h1 h2 h3 h4 x hx hc => by
    rw [h4 1546 (by omega)] at hc
    have yx := hY x hx hc
    rw [h4 (1100 + x) (by omega), h4 (1110 + x) (by omega), h4 1547 (by omega)]
    by_cases z : x = e
    · subst z
      rw [h2, h3]
      exact ⟨by omega, by omega⟩
    · rw [(h1 x hx z).1, (h1 x hx z).2, a8 x hx z, a9 x hx, yx.1, yx.2]
      have : ((x : Int) < (e : Int)) ↔ ((x : Int) < ((e + 1 : Nat) : Int)) := by omega
      exact ⟨by omega, by omega⟩
  by_cases q : w (1110 + e) = w 1547
  · have hz : w1 (1130 + e) = 0 := by
      rw [a9 e he]
      rcases b8 with b | b
      · exact b
      · have := y.2.1 b; omega
    obtain ⟨M2, w2, T2, p1, p2, p3, p4, p5, p6, p7, p8, p9, p10⟩ := pay_step a2 a4 he (by rw [e46]; exact hl) hz hM1 hN0 hN
    refine ⟨M2, w2, T2, fun n => ?_, p2, a3.trans p3, p4, ?_, p5, fun X h n => ?_, by rw [p9 1546 (by omega), e46], by rw [p9 1547 (by omega), e47], (QD.of h0.1.1.2 (fun j hj => a6 j (by omega))).trans p10⟩
    · rw [c41]
      unfold fX3_takeTurns_41 fX3_takeTurns_60
      rw [xr_399_0, a2.1.epay he, a2.1.day, e10, e47, if_pos q, p1, xb_l, w32_s (by omega)]
    · exact yrest w2 (fun x hx hne => ⟨p9 _ (by omega), p8 x hx hne⟩) (by rw [p9 _ (by omega)]; exact a7) ⟨fun _ => by omega, fun _ => p7⟩ (fun j hj => by rw [p9 j (by omega), a6 j (by omega)])
    · rw [m72]
      unfold fX12_endDay_72 fX12_endDay_99
      simp (disch := omega) only [w32_i, xix_t, xr_400_0, tn_add, Int.toNat_natCast, Int.reduceToNat, st_401]
      rw [e10, e47, if_pos q, p6, xb_l, show (e : Int) + 1 = ((e + 1 : Nat) : Int) by omega]
  · refine ⟨M1, w1, T, fun n => ?_, a2, a3, a4, ?_, hM1.mono (by omega), fun X h n => ?_, e46, e47, QD.of h0.1.1.2 (fun j hj => a6 j (by omega))⟩
    · rw [c41]
      unfold fX3_takeTurns_41 fX3_takeTurns_60
      rw [xr_399_0, a2.1.epay he, a2.1.day, e10, e47, if_neg q, w32_s (by omega)]
    · refine yrest w1 (fun x _ _ => ⟨rfl, rfl⟩) a7 ?_ (fun j hj => a6 j (by omega))
      rw [a9 e he, y.2]; omega
    · rw [m72]
      unfold fX12_endDay_72 fX12_endDay_99
      simp (disch := omega) only [w32_i, xix_t, xr_400_0, tn_add, Int.toNat_natCast, Int.reduceToNat, st_401]
      rw [e10, e47, if_neg q, show (e : Int) + 1 = ((e + 1 : Nat) : Int) by omega]
theorem turns : ∀ (k e : Nat) (M : xM) (w T : Nat → Int) (N : Int), (e : Int) + k = w 1546 → SS M w T → Inv0 w → IY (e : Int) w → IM N w → 0 ≤ N → N + k * 600000000000000 ≤ 4000000000000000000 → ∃ (M' : xM) (w' T' : Nat → Int), (∀ n, k < n → fX3_takeTurns_2 399 n (e : Int) M = some (.inl 0, M')) ∧ SS M' w' T' ∧ fz M M' ∧ Inv0 w' ∧ IY ((e + k : Nat) : Int) w' ∧ IM (N + k * 600000000000000) w' ∧ (∀ (X : xM) (h : Int) (n : Nat), k < n → fX12_endDay_31 400 n (e : Int) (st X w T h) = fX12_endDay_109 400 xN 0 0 (st X w' T' h)) ∧ w' 1546 = w 1546 ∧ w' 1547 = w 1547 ∧ QD w w' := by
  intro k
  induction k with
  | zero =>
    intro e M w T N hk hS h0 hY hM hN0 hN
    refine ⟨M, w, T, fun n hn => ?_, hS, fz.refl M, h0, hY, hM.mono (by omega), fun X h n hn => ?_, rfl, rfl, QD.refl w⟩
    · obtain ⟨m, rfl⟩ : ∃ m, n = m + 1 := ⟨n - 1, by omega⟩
      rw [fX3_takeTurns_2, xr_399_0, if_pos (by rw [hS.1.nE]; omega)]; rfl
    · obtain ⟨m, rfl⟩ : ∃ m, n = m + 1 := ⟨n - 1, by omega⟩
      rw [fX12_endDay_31, xr_400_0, st_401, if_pos (by omega)]
  | succ k ih =>
    intro e M w T N hk hS h0 hY hM hN0 hN
    have ce := h0.1.2.2.2.2.2.2.1
    obtain ⟨M1, w1, T1, a1, a2, a3, a4, a5, a6, a7, a8, a9, aq⟩ := turn_step hS h0 (e := e) (by omega) (by omega) hY hM hN0 (by omega)
    obtain ⟨M2, w2, T2, b1, b2, b3, b4, b5, b6, b7, b8, b9, bq⟩ := ih (e + 1) M1 w1 T1 (N + 600000000000000) (by rw [a8]; omega) a2 a4 a5 a6 (by omega) (by omega)
    refine ⟨M2, w2, T2, fun n hn => ?_, b2, a3.trans b3, b4, by rw [show e + (k + 1) = e + 1 + k by omega]; exact b5, b6.mono (by omega), fun X h n hn => ?_, by rw [b8, a8], by rw [b9, a9], aq.trans bq⟩
    · obtain ⟨m, rfl⟩ : ∃ m, n = m + 1 := ⟨n - 1, by omega⟩
      rw [a1]; exact b1 m (by omega)
    · obtain ⟨m, rfl⟩ : ∃ m, n = m + 1 := ⟨n - 1, by omega⟩
      rw [a7]; exact b7 X h m (by omega)
theorem lFL_add : ∀ (k l : Nat) (w T : Nat → Int) (x y : Int), lFL k l w T (x + y) = ((lFL k l w T y).1, x + (lFL k l w T y).2)
  | 0, _, _, _, _, _ => rfl
  | k + 1, l, w, T, x, y => by
    unfold lFL
    split
    · rw [Int.add_assoc]; exact lFL_add k (l + 1) _ _ x _
    · exact lFL_add k (l + 1) w T x y
def eqL (w w' : Nat → Int) : Prop := ∀ j, (j < 80 ∨ 90 ≤ j) → w' j = w j
theorem wFn_L {w : Nat → Int} {a c s : Nat} {u : Int} (ha : a < 10) (hc : c < 10) : eqL w (wFn w a c s u) := fun j hj => by
  unfold wFn; split
  · rfl
  · exact wOw_ne ha hc hj
theorem wFn_q {w : Nat → Int} {a c s : Nat} {u : Int} (h : lq w) : lq (wFn w a c s u) := by
  unfold wFn; split
  · exact h
  · exact h.ow _
theorem eqL.pm {w w' : Nat → Int} (h : eqL w w') : eqo pm w w' := fun j hj => h j (by have := pm_t hj; omega)
theorem lFT_L : ∀ (k t : Nat) (w T : Nat → Int) (x : Int), LT w → (t : Int) + k ≤ w 1543 → lq w → eqL w (lFT k t w T x).1.1 ∧ lq (lFT k t w T x).1.1
  | 0, _, _, _, _, _, _, h => ⟨fun _ _ => rfl, h⟩
  | k + 1, t, w, T, x, hL, ht, h => by
    unfold lFT
    split
    · have e := wFn_L (w := w) (s := pp w t) (u := w (770 + t)) (sCau_l hL 20 (fun _ => false) t (by omega)) (sFd_l (hL.2 t (by omega)))
      have r := lFT_L k (t + 1) (wFn w (sCau w 20 (fun _ => false) t) (sFd w t) (pp w t) (w (770 + t))) (tFn T (sCau w 20 (fun _ => false) t) (sFd w t)) (x + nFn (sCau w 20 (fun _ => false) t) (sFd w t)) (hL.pm e.pm) (by rw [e 1543 (by omega)]; omega) (wFn_q h)
      exact ⟨fun j hj => by rw [r.1 j hj, e j hj], r.2⟩
    · exact lFT_L k (t + 1) w T x hL (by omega) h
theorem lFL_L : ∀ (k l : Nat) (w T : Nat → Int) (x : Int), IC w → IL w → (l : Int) + k ≤ w 1545 → lq w → eqL w (lFL k l w T x).1.1 ∧ lq (lFL k l w T x).1.1
  | 0, _, _, _, _, _, _, _, h => ⟨fun _ _ => rfl, h⟩
  | k + 1, l, w, T, x, hC, hL, ht, h => by
    unfold lFL
    split
    · obtain ⟨b, d, s, e1, e2, e3, hb, hd, hs⟩ := hL.nat hC (l := l) (by omega)
      rw [e1, e2, e3, Int.toNat_natCast, Int.toNat_natCast, Int.toNat_natCast]
      have e := wFn_L (w := w) (s := s) (u := w (990 + l)) hb hd
      have r := lFL_L k (l + 1) (wFn w b d s (w (990 + l))) (tFn T b d) (x + nFn b d) (hC.pm e.pm) (hL.pm e.pm) (by rw [e 1545 (by omega)]; omega) (wFn_q h)
      exact ⟨fun j hj => by rw [r.1 j hj, e j hj], r.2⟩
    · exact lFL_L k (l + 1) w T x hC hL (by omega) h
theorem Inv0.day {w : Nat → Int} (h : Inv0 w) (hd : w 1547 < 2000) : Inv0 (ups w 1547 (w 1547 + 1)) := by
  obtain ⟨hC, hA, hS, hH, hI, hT, hK, hL, hE⟩ := h
  have c2 := hC.2.2.1
  have c7 := hC.2.2.2.2.2.2.2
  have ne : ∀ j, j ≠ 1547 → ups w 1547 (w 1547 + 1) j = w j := fun j hj => ups_ne hj
  refine ⟨?_, hA.fr hC (fun j _ => ne j (by omega)), hS.fr (fun j _ => ne j (by omega)), hH.fr (fun j _ => ne j (by omega)), hI.fr hC (fun j _ => ne j (by omega)), fun t ht => ?_, hK.fr (fun j _ => ne j (by omega)), hL.fr (fun j _ => ne j (by omega)), hE.fr (fun j _ => ne j (by omega))⟩
  · unfold IC
    rw [ne 1540 (by omega), ne 1541 (by omega), ne 1542 (by omega), ne 1543 (by omega), ne 1544 (by omega), ne 1545 (by omega), ne 1546 (by omega), ups_same]
    exact ⟨hC.1, hC.2.1, hC.2.2.1, hC.2.2.2.1, hC.2.2.2.2.1, hC.2.2.2.2.2.1, hC.2.2.2.2.2.2.1, by omega⟩
  · have k := hT t ht
    have hKQ : KQ (ups w 1547 (w 1547 + 1)) = KQ w := KQ_eq (fun e he => ne _ (by omega))
    have d1 : di (ups w 1547 (w 1547 + 1)) t = di w t := by unfold di; rw [ne _ (by omega)]
    have d2 : ri (ups w 1547 (w 1547 + 1)) t = ri w t := by unfold ri; rw [ne _ (by omega)]
    refine ⟨fun hl => ?_, fun hl => ?_⟩
    · rw [ne _ (by omega)] at hl
      obtain ⟨k1, k2, k3, k4, k5, k6, k7, k8, k9, k10, k11, k12, k13, k14⟩ := k.1 hl
      have b1 : di w t < 40 := by unfold di; omega
      have b2 : ri w t < 40 := by unfold ri; omega
      rw [hKQ, d1, d2, ups_same]
      simp (disch := omega) only [ne]
      exact ⟨k1, k2, k3, k4, k5, k6, k7, k8, ⟨k9.1, by omega⟩, k10, k11, k12, k13, k14⟩
    · rw [ne _ (by omega)] at hl
      rw [ne _ (by omega), ne _ (by omega)]; exact k.2 hl
