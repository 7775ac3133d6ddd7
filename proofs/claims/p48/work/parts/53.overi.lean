theorem wOv_ne {w : Nat → Int} (hC : IC w) {t : Nat} {how : Int} {j : Nat} (h1 : ¬ (890 ≤ j ∧ j < 920)) (h2 : j ≠ 1544) : wOv w t how j = wPs w t (how + 1) j := by
  have := hC.2.2.2.2.1
  unfold wOv
  exact wLk_ne _ _ _ 0 0 _ (by omega) (by omega) j h1 h2
theorem wOv_n {w : Nat → Int} (hC : IC w) {t : Nat} {how : Int} {j : Nat} (h1 : ¬ (890 ≤ j ∧ j < 920)) (h2 : j ≠ 1544) (h3 : ¬ (570 ≤ j ∧ j < 610)) (h4 : j ≠ 870 + t) (hd : di w t < 40) (hr : ri w t < 40) : wOv w t how j = w j := by
  rw [wOv_ne hC h1 h2]
  unfold wPs
  rw [ups_ne (by omega), ups_ne (by omega), ups_ne h4]
theorem wLk_rows (t : Int) (g : Bool) (P : Int → Int → Int → Prop) : ∀ (k i l : Nat) (w : Nat → Int), i + k ≤ 10 → l ≤ i → (∀ j : Nat, j < 10 → (j < l ∨ (i ≤ j ∧ j < i + k)) → P (w (890 + j)) (w (900 + j)) (w (910 + j))) → ∀ j : Nat, j < 10 → (j : Int) < wLk t g k i l w 1544 → P (wLk t g k i l w (890 + j)) (wLk t g k i l w (900 + j)) (wLk t g k i l w (910 + j))
  | 0, i, l, w, hi, hl, h, j, hj, hc => by
    unfold wLk at hc ⊢
    rw [ups_same] at hc
    rw [ups_ne (by omega), ups_ne (by omega), ups_ne (by omega)]; exact h j hj (Or.inl (by omega))
  | k + 1, i, l, w, hi, hl, h, j, hj, hc => by
    unfold wLk at hc ⊢
    refine wLk_rows t g P k (i + 1) _ _ (by omega) (by split <;> omega) (fun x hx hq => ?_) j hj hc
    by_cases z : x = l
    · subst z
      simp (disch := omega) only [ups_ne, ups_same]
      exact h i (by omega) (Or.inr (by omega))
    · simp (disch := omega) only [ups_ne]
      refine h x hx ?_
      split at hq <;> omega
theorem IC.over {w : Nat → Int} (hC : IC w) {t : Nat} {how : Int} (hd : di w t < 40) (hr : ri w t < 40) (ht : t < 20) : IC (wOv w t how) := by
  have hk := hC.2.2.2.2.1
  have e : ∀ j, 1540 ≤ j → j ≠ 1544 → wOv w t how j = w j := fun j h1 h2 => wOv_n hC (by omega) h2 (by omega) (by omega) hd hr
  obtain ⟨n, h1, h2⟩ := wLk_cnt (t : Int) (decide (how = 2)) (w 1544).toNat 0 0 (wPs w t (how + 1)) (by omega) (by omega)
  unfold IC
  rw [e 1540 (by omega) (by omega), e 1541 (by omega) (by omega), e 1542 (by omega) (by omega), e 1543 (by omega) (by omega), e 1545 (by omega) (by omega), e 1546 (by omega) (by omega), e 1547 (by omega) (by omega), show wOv w t how 1544 = (n : Int) from h1]
  exact ⟨hC.1, hC.2.1, hC.2.2.1, hC.2.2.2.1, by omega, hC.2.2.2.2.2⟩
theorem IK.over {w : Nat → Int} (hC : IC w) (hK : IK w) {t : Nat} {how : Int} (hd : di w t < 40) (hr : ri w t < 40) (ht : t < 20) : IK (wOv w t how) := by
  have hk := hC.2.2.2.2.1
  have e43 : wOv w t how 1543 = w 1543 := wOv_n hC (by omega) (by omega) (by omega) (by omega) hd hr
  intro k hk2 hl
  rw [e43]
  unfold wOv at hl ⊢
  refine wLk_rows (t : Int) (decide (how = 2)) (fun a b c => (0 ≤ a ∧ a < w 1543) ∧ (0 ≤ b ∧ b < w 1543) ∧ B01 c) (w 1544).toNat 0 0 (wPs w t (how + 1)) (by omega) (by omega) (fun j hj hq => ?_) k hk2 hl
  have := hK j hj (by omega)
  unfold wPs
  simp (disch := omega) only [ups_ne]
  exact this
theorem IT.own {w : Nat → Int} (hI : IT w) {t u : Nat} (ht : t < 20) (hu : u < 20) (h1 : (t : Int) < w 1543) (h2 : (u : Int) < w 1543) (hne : t ≠ u) : di w u ≠ di w t ∧ di w u ≠ ri w t ∧ ri w u ≠ di w t ∧ ri w u ≠ ri w t := by
  obtain ⟨-, -, -, -, -, -, -, -, -, -, -, -, a1, a2⟩ := (hI t ht).1 h1
  obtain ⟨-, -, -, -, -, -, -, -, -, -, -, -, b1, b2⟩ := (hI u hu).1 h2
  refine ⟨fun z => ?_, fun z => ?_, fun z => ?_, fun z => ?_⟩
  · rw [z, a1] at b1; omega
  · rw [z, a2] at b1; omega
  · rw [z, a1] at b2; omega
  · rw [z, a2] at b2; omega
theorem Inv0.over {w : Nat → Int} (h : Inv0 w) {t : Nat} {how : Int} (ht : (t : Int) < w 1543) (hp : w (870 + t) = 0) (hh : how = 1 ∨ how = 2) : Inv0 (wOv w t how) := by
  have f := h.tf ht
  obtain ⟨f0, f1, f2, -⟩ := f
  obtain ⟨hC, hA, hS, hH, hI, hT, hK, hL, hE⟩ := h
  have ne : ∀ j, ¬ (890 ≤ j ∧ j < 920) → j ≠ 1544 → ¬ (570 ≤ j ∧ j < 610) → j ≠ 870 + t → wOv w t how j = w j := fun j a b c d => wOv_n hC a b c d f1 f2
  have es : ∀ i : Nat, i < 40 → i ≠ di w t → i ≠ ri w t → wOv w t how (570 + i) = w (570 + i) := fun i hi a b => by
    rw [wOv_ne hC (by omega) (by omega)]; unfold wPs; rw [ups_ne (by omega), ups_ne (by omega), ups_ne (by omega)]
  have ed : wOv w t how (570 + di w t) = how + 1 := by
    rw [wOv_ne hC (by omega) (by omega)]; unfold wPs
    by_cases q : di w t = ri w t
    · rw [← q, ups_same]
    · rw [ups_ne (by omega), ups_same]
  have er : wOv w t how (570 + ri w t) = how + 1 := by
    rw [wOv_ne hC (by omega) (by omega)]; unfold wPs; rw [ups_same]
  have et : wOv w t how (870 + t) = how := by
    rw [wOv_ne hC (by omega) (by omega)]; unfold wPs; rw [ups_ne (by omega), ups_ne (by omega), ups_same]; omega
  have hc2 := hC.2.2.1
  have hc3 := hC.2.2.2.1
  have hKQ : KQ (wOv w t how) = KQ w := KQ_eq (fun e he => ne _ (by omega) (by omega) (by omega) (by omega))
  have hdi : ∀ u, u < 20 → di (wOv w t how) u = di w u ∧ ri (wOv w t how) u = ri w u := fun u hu => by
    unfold di ri; rw [ne _ (by omega) (by omega) (by omega) (by omega), ne _ (by omega) (by omega) (by omega) (by omega)]; exact ⟨rfl, rfl⟩
  refine ⟨hC.over f1 f2 f0, hA.fr hC (fun j hj => ne j (by omega) (by omega) (by omega) (by omega)), hS.fr (fun j hj => ne j (by omega) (by omega) (by omega) (by omega)), hH.fr (fun j hj => ne j (by omega) (by omega) (by omega) (by omega)), ?_, ?_, hK.over hC f1 f2 f0, hL.fr (fun j hj => ne j (by omega) (by omega) (by omega) (by omega)), hE.fr (fun j hj => ne j (by omega) (by omega) (by omega) (by omega))⟩
  · intro i hi
    have k := hI i hi
    have g : ∀ lo : Nat, (lo = 210 ∨ lo = 250 ∨ lo = 330 ∨ lo = 370 ∨ lo = 410 ∨ lo = 450 ∨ lo = 490 ∨ lo = 530 ∨ lo = 650 ∨ lo = 290 ∨ lo = 610 ∨ lo = 690) → wOv w t how (lo + i) = w (lo + i) := fun lo hlo => ne _ (by omega) (by omega) (by omega) (by omega)
    rw [ne 1542 (by omega) (by omega) (by omega) (by omega), ne 1543 (by omega) (by omega) (by omega) (by omega), ne 1540 (by omega) (by omega) (by omega) (by omega), ne 1541 (by omega) (by omega) (by omega) (by omega), g 210 (by omega), g 250 (by omega), g 330 (by omega), g 370 (by omega), g 410 (by omega), g 450 (by omega), g 490 (by omega), g 530 (by omega), g 650 (by omega), g 290 (by omega), g 610 (by omega), g 690 (by omega)]
    refine ⟨fun hl => ?_, fun hl => ?_⟩
    · obtain ⟨k1, k2, k3, k4, k5, k6, k7, k8, k9, k10, k11, k12, k13⟩ := k.1 hl
      have st1 : (0 ≤ wOv w t how (570 + i) ∧ wOv w t how (570 + i) ≤ 3) ∧ (wOv w t how (570 + i) = 1 → i ≠ di w t ∧ i ≠ ri w t ∧ w (570 + i) = 1) := by
        by_cases a : i = di w t
        · rw [a, ed]; exact ⟨by omega, fun z => by omega⟩
        · by_cases b : i = ri w t
          · rw [b, er]; exact ⟨by omega, fun z => by omega⟩
          · rw [es i hi a b]; exact ⟨k10, fun z => ⟨a, b, z⟩⟩
      refine ⟨k1, k2, k3, k4, k5, k6, k7, k8, k9, st1.1, k11, fun z => ?_, k13⟩
      obtain ⟨a, b, z1⟩ := st1.2 z
      obtain ⟨c1, c2, c3⟩ := k12 z1
      have hu : (w (650 + i)).toNat < 20 := by omega
      have hne : (w (650 + i)).toNat ≠ t := fun y => by
        rw [y] at c3; rcases c3 with c3 | c3
        · exact a c3.symm
        · exact b c3.symm
      rw [(hdi _ hu).1, (hdi _ hu).2, ne _ (by omega) (by omega) (by omega) (by omega)]
      exact ⟨c1, c2, c3⟩
    · have kk := k.2 hl
      have a : i ≠ di w t := fun z => by have := ((hT t f0).1 ht).1; unfold di at z; omega
      have b : i ≠ ri w t := fun z => by have := ((hT t f0).1 ht).2.1; unfold ri at z; omega
      rw [es i hi a b]; exact kk
  · intro u hu
    have k := hT u hu
    have g : ∀ lo : Nat, (lo = 730 ∨ lo = 750 ∨ lo = 770 ∨ lo = 790 ∨ lo = 810 ∨ lo = 830 ∨ lo = 850) → wOv w t how (lo + u) = w (lo + u) := fun lo hlo => ne _ (by omega) (by omega) (by omega) (by omega)
    rw [hKQ, (hdi u hu).1, (hdi u hu).2, ne 1542 (by omega) (by omega) (by omega) (by omega), ne 1543 (by omega) (by omega) (by omega) (by omega), ne 1547 (by omega) (by omega) (by omega) (by omega), g 730 (by omega), g 750 (by omega), g 770 (by omega), g 790 (by omega), g 810 (by omega), g 830 (by omega), g 850 (by omega)]
    refine ⟨fun hl => ?_, fun hl => ?_⟩
    · obtain ⟨k1, k2, k3, k4, k5, k6, k7, k8, k9, k10, k11, k12, k13, k14⟩ := k.1 hl
      have hud : di w u < 40 := by unfold di; omega
      have hur : ri w u < 40 := by unfold ri; omega
      rw [ne (210 + di w u) (by omega) (by omega) (by omega) (by omega), ne (210 + ri w u) (by omega) (by omega) (by omega) (by omega), ne (650 + di w u) (by omega) (by omega) (by omega) (by omega), ne (650 + ri w u) (by omega) (by omega) (by omega) (by omega)]
      by_cases q : u = t
      · subst q
        rw [et, ed, er]
        exact ⟨k1, k2, k3, k4, fun z => by omega, k6, k7, k8, k9, by omega, by omega, by omega, k13, k14⟩
      · obtain ⟨o1, o2, o3, o4⟩ := hT.own f0 hu ht hl (fun z => q z.symm)
        rw [ne (870 + u) (by omega) (by omega) (by omega) (by omega), es _ hud o1 o2, es _ hur o3 o4]
        exact ⟨k1, k2, k3, k4, k5, k6, k7, k8, k9, k10, k11, k12, k13, k14⟩
    · have kk := k.2 hl
      rw [ne (870 + u) (by omega) (by omega) (by omega) (by omega)]; exact kk
