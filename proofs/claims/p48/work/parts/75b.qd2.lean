-- the ledgers' sum over a day's end
def AT (w : Nat → Int) : Prop := ∀ t : Nat, (t : Int) < w 1543 → (dl w t : Int) < w 1540 ∧ (rc w t : Int) < w 1540
theorem AT.fr {w w' : Nat → Int} (h : AT w) (hL : LT w) (hw : ∀ j, (210 ≤ j ∧ j < 250) ∨ (330 ≤ j ∧ j < 370) ∨ (730 ≤ j ∧ j < 770) ∨ j = 1540 ∨ j = 1543 → w' j = w j) : AT w' := fun t ht => by
  rw [hw 1543 (by omega)] at ht
  obtain ⟨-, -, -, e1, e2, -⟩ := (hL.2 t ht).fr (w' := w') (fun j hj => hw j (by omega))
  rw [e1, e2, hw 1540 (by omega)]; exact h t ht
theorem Inv0.at {w : Nat → Int} (h : Inv0 w) : AT w := fun t ht => by
  have f := h.tf ht
  obtain ⟨t1, t2, -⟩ := (h.2.2.2.2.2.1 t f.1).1 ht
  have g1 : w (730 + t) = (di w t : Int) := f.2.2.2.2.2.2.1
  have g2 : w (750 + t) = (ri w t : Int) := f.2.2.2.2.2.2.2.1
  have i1 := ((h.2.2.2.2.1 (di w t) f.2.1).1 (by omega)).1
  have i2 := ((h.2.2.2.2.1 (ri w t) f.2.2.1).1 (by omega)).1
  have e1 : w (210 + di w t) = (dl w t : Int) := f.2.2.2.2.2.2.2.2.1
  have e2 : w (210 + ri w t) = (rc w t : Int) := f.2.2.2.2.2.2.2.2.2.1
  exact ⟨by omega, by omega⟩
theorem AT.pm {w w' : Nat → Int} (h : AT w) (hL : LT w) (e : eqo pm w w') : AT w' := h.fr hL (fun j hj => e j (pm_f (by omega)))
theorem sCau_a {w : Nat → Int} (hL : LT w) (hA : AT w) : ∀ (n : Nat) (g : Nat → Bool) (t : Nat), (t : Int) < w 1543 → (sCau w n g t : Int) < w 1540
  | 0, _, t, ht => (hA t ht).1
  | n + 1, g, t, ht => by
    have hc := hL.1.2.2.2.1
    unfold sCau
    split
    · exact (hA t ht).1
    · split
      · exact (hA t ht).2
      · split
        · exact (hA t ht).1
        · next h =>
          rcases sSrc_v (w := w) (g := gs g t) (a := dl w t) (s := pp w t) (w 1543).toNat 0 with q | ⟨j, j1, j2, -⟩
          · exact absurd q h
          · exact sCau_a hL hA n _ _ (by omega)
theorem sFd_a {w : Nat → Int} {t : Nat} (h : (dl w t : Int) < w 1540 ∧ (rc w t : Int) < w 1540) : (sFd w t : Int) < w 1540 := by
  unfold sFd; split
  · exact h.2
  · exact h.1
theorem QD.fn {w : Nat → Int} {a c s : Nat} {u : Int} (ha : (a : Int) < w 1540) (hc : (c : Int) < w 1540) (h10 : w 1540 ≤ 10) : QD w (wFn w a c s u) := by
  unfold wFn; split
  · exact QD.refl w
  · exact QD.ow ha hc h10 _
theorem lFT_qd : ∀ (k t : Nat) (w T : Nat → Int) (x : Int), LT w → AT w → (t : Int) + k ≤ w 1543 → QD w (lFT k t w T x).1.1
  | 0, _, w, _, _, _, _, _ => QD.refl w
  | k + 1, t, w, T, x, hL, hA, ht => by
    have h10 := hL.1.1.2
    unfold lFT
    split
    · have a1 := sCau_a hL hA 20 (fun _ => false) t (by omega)
      have a2 := sFd_a (hA t (by omega))
      have e := wFn_e (eqo.refl pm w) (sCau_l hL 20 (fun _ => false) t (by omega)) (sFd_l (hL.2 t (by omega))) (pp w t) (w (770 + t))
      exact (QD.fn a1 a2 h10).trans (lFT_qd k (t + 1) _ _ _ (hL.pm e) (hA.pm hL e) (by rw [e 1543 (pm_f (by omega))]; omega))
    · exact lFT_qd k (t + 1) w T x hL hA (by omega)
theorem lFL_qd : ∀ (k l : Nat) (w T : Nat → Int) (x : Int), IC w → IL w → (l : Int) + k ≤ w 1545 → QD w (lFL k l w T x).1.1
  | 0, _, w, _, _, _, _, _ => QD.refl w
  | k + 1, l, w, T, x, hC, hL, ht => by
    have c5 := hC.2.2.2.2.2.1
    unfold lFL
    split
    · obtain ⟨k1, k2, -⟩ := hL l (by omega) (by omega)
      obtain ⟨b, d, s, e1, e2, e3, hb, hd, hs⟩ := hL.nat hC (l := l) (by omega)
      rw [e1] at k1
      rw [e2] at k2
      rw [e1, e2, e3, Int.toNat_natCast, Int.toNat_natCast, Int.toNat_natCast]
      have e := wFn_e (eqo.refl pm w) hb hd s (w (990 + l))
      exact (QD.fn k1.2 k2.2 hC.1.2).trans (lFL_qd k (l + 1) _ _ _ (hC.fr (fun j _ _ => e j (pm_f (by omega)))) (hL.pm e) (by rw [e 1545 (pm_f (by omega))]; omega))
    · exact lFL_qd k (l + 1) w T x hC hL (by omega)
theorem wPs_ns {w : Nat → Int} {t i : Nat} {s : Int} (hi : i < 40) (t20 : t < 20) (n1 : i ≠ di w t) (n2 : i ≠ ri w t) : wPs w t s (570 + i) = w (570 + i) := by
  unfold wPs; rw [ups_ne (by omega), ups_ne (by omega), ups_ne (by omega)]
theorem QD.ov {w : Nat → Int} (hC : IC w) {t : Nat} (t20 : t < 20) (d40 : di w t < 40) (r40 : ri w t < 40) (e1 : w (650 + di w t) = (t : Int)) (e2 : w (650 + ri w t) = (t : Int)) (how : Int) : QD w (wOv w t how) := by
  have ne : ∀ j, (j < 570 ∨ (610 ≤ j ∧ j < 870) ∨ (920 ≤ j ∧ j ≠ 1544)) → wOv w t how j = w j := fun j hj => wOv_n hC (by omega) (by omega) (by omega) (by omega) d40 r40
  have h10 := hC.1.2
  refine ⟨fun n hn => by rw [sm_eq (g := fun a => w (80 + a)) n (fun a ha => ne _ (by omega))], fun i hi hz => ?_, fun j hj => ne j (by omega)⟩
  rw [wOv_ne hC (by omega) (by omega)]
  exact wPs_ns hi t20 (fun z => by rw [← z] at e1; omega) (fun z => by rw [← z] at e2; omega)
theorem lCm_qd {e : Nat} : ∀ (k t : Nat) (w : Nat → Int), (t : Int) + k ≤ w 1543 → LT w → AT w → QD w (lCm e k t w)
  | 0, _, w, _, _, _ => QD.refl w
  | k + 1, t, w, ht, hL, hA => by
    have f := hL.2 t (by omega)
    have a := hA t (by omega)
    have ev := wOw_e (eqo.refl pm w) f.2.2.2.1 f.2.2.2.2.1 (w64 (w (1340 + 20 * e + t) * w (1070 + e)))
    unfold lCm
    exact (QD.ow a.1 a.2 hL.1.1.2 _).trans (lCm_qd k (t + 1) _ (by rw [ev 1543 (pm_f (by omega))]; omega) (hL.pm ev) (hA.pm hL ev))
theorem lDv_ne {e s : Nat} : ∀ (k a : Nat) (w : Nat → Int), a + k ≤ 10 → ∀ j, (j < 30 ∨ 40 ≤ j) → lDv e s k a w j = w j
  | 0, _, _, _, _, _ => rfl
  | k + 1, a, w, ha, j, hj => by
    unfold lDv
    rw [lDv_ne k (a + 1) _ (by omega) j hj]
    unfold wCr
    exact ups_ne (by omega)
theorem lSt_qd {e : Nat} (he : e < 10) {A B : Int} (hA : AB A) (hB : AB B) {s : Nat} {K : Int} : ∀ (k t : Nat) (w T : Nat → Int), (t : Int) + k = w 1543 → GT e w t K → QD w (lSt A B s k t w T).1
  | 0, _, w, _, _, _ => QD.refl w
  | k + 1, t, w, T, ht, h => by
    have hL := h.lt he
    have f := hL.2 t (by omega)
    have f0 := f.1
    have ne := fun (j : Nat) hj => wSt_ne (A := A) (B := B) (s := s) hL.1 f (j := j) hj
    have ih := lSt_qd he hA hB (s := s) k (t + 1) (wSt A B s w t) (tSt A B s w T t) (by rw [ne 1543 (by omega)]; omega) (h.step he hA hB (by omega))
    have q1 : QD w (wS1 A B w t) := QD.of hL.1.1.2 (fun j hj => wS1_ne (by omega) (by omega))
    have kT := (h.1.2.2.2.2.2.1 t f0).1 (by rw [ups_ne (by omega)]; omega)
    obtain ⟨-, -, -, -, -, -, -, -, -, -, -, -, e1, e2⟩ := kT
    have d1 : di (ups w (1130 + e) 1) t = di w t := by unfold di; rw [ups_ne (by omega)]
    have d2 : ri (ups w (1130 + e) 1) t = ri w t := by unfold ri; rw [ups_ne (by omega)]
    have d3 : di (wS1 A B w t) t = di w t := by unfold di; rw [wS1_ne (by omega) (by omega)]
    have d4 : ri (wS1 A B w t) t = ri w t := by unfold ri; rw [wS1_ne (by omega) (by omega)]
    have b1 := f.2.1
    have b2 := f.2.2.1
    rw [d1, ups_ne (by omega)] at e1
    rw [d2, ups_ne (by omega)] at e2
    have q2 : QD w (wSt A B s w t) := by
      unfold wSt
      split
      · split
        · exact q1.trans (QD.ov (hL.1.fr (fun j _ _ => wS1_ne (by omega) (by omega))) f0 (by rw [d3]; exact b1) (by rw [d4]; exact b2) (by rw [d3, wS1_ne (by omega) (by omega)]; exact e1) (by rw [d4, wS1_ne (by omega) (by omega)]; exact e2) 2)
        · exact q1
      · exact QD.refl w
    unfold lSt
    exact q2.trans ih
theorem lGr_qd : ∀ (k t : Nat) (w T : Nat → Int), (t : Int) + k = w 1543 → GI w t → AT w → QD w (lGr k t w T).1
  | 0, _, w, _, _, _, _ => QD.refl w
  | k + 1, t, w, T, ht, h, hA => by
    have hL := h.lt
    have f := hL.2 t (by omega)
    have f0 := f.1
    have a := hA t (by omega)
    have ne := fun (j : Nat) hj => wGr_ne h.ic f (j := j) hj
    have ih := lGr_qd k (t + 1) (wGr w t) (tGr w T t) (by rw [ne 1543 (by omega)]; omega) (h.step (by omega)) (hA.fr hL (fun j hj => ne j (by omega)))
    have q1 : QD w (wG1 w t) := QD.of hL.1.1.2 (fun j hj => wG1_ne (by omega))
    have kT := (h.1.2.2.2.2.2.1 t f0).1 (by rw [ups_ne (by omega)]; omega)
    obtain ⟨-, -, -, -, -, -, -, -, -, -, -, -, e1, e2⟩ := kT
    have d1 : di (ups w 1547 (w 1547 + 1)) t = di w t := by unfold di; rw [ups_ne (by omega)]
    have d2 : ri (ups w 1547 (w 1547 + 1)) t = ri w t := by unfold ri; rw [ups_ne (by omega)]
    have b1 := f.2.1
    have b2 := f.2.2.1
    rw [d1, ups_ne (by omega)] at e1
    rw [d2, ups_ne (by omega)] at e2
    have on : ∀ j, (j < 80 ∨ 90 ≤ j) → j ≠ 850 + t → wOw (wG1 w t) (dl w t) (rc w t) (sGp w t) j = w j := fun j hj hne => by rw [wOw_ne f.2.2.2.1 f.2.2.2.2.1 hj, wG1_ne hne]
    have q2 : QD w (wGr w t) := by
      unfold wGr
      split
      · split
        · have q3 : QD (wG1 w t) (wOw (wG1 w t) (dl w t) (rc w t) (sGp w t)) := QD.ow (by rw [wG1_ne (by omega)]; exact a.1) (by rw [wG1_ne (by omega)]; exact a.2) (by rw [wG1_ne (by omega)]; exact hL.1.1.2) _
          have d3 : di (wOw (wG1 w t) (dl w t) (rc w t) (sGp w t)) t = di w t := by unfold di; rw [on _ (by omega) (by omega)]
          have d4 : ri (wOw (wG1 w t) (dl w t) (rc w t) (sGp w t)) t = ri w t := by unfold ri; rw [on _ (by omega) (by omega)]
          exact (q1.trans q3).trans (QD.ov (hL.1.fr (fun j _ _ => on j (by omega) (by omega))) f0 (by rw [d3]; exact b1) (by rw [d4]; exact b2) (by rw [d3, on _ (by omega) (by omega)]; exact e1) (by rw [d4, on _ (by omega) (by omega)]; exact e2) 2)
        · exact q1
      · exact QD.refl w
    unfold lGr
    exact q2.trans ih
