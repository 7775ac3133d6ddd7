theorem IC.fr {w w' : Nat → Int} (h : IC w) (hw : ∀ j, 1540 ≤ j → j ≤ 1547 → w' j = w j) : IC w' := by
  unfold IC; rw [hw 1540 (by omega) (by omega), hw 1541 (by omega) (by omega), hw 1542 (by omega) (by omega), hw 1543 (by omega) (by omega), hw 1544 (by omega) (by omega), hw 1545 (by omega) (by omega), hw 1546 (by omega) (by omega), hw 1547 (by omega) (by omega)]; exact h
theorem IA.fr {w w' : Nat → Int} (hC : IC w) (h : IA w) (hw : ∀ j, (j < 30 ∨ (50 ≤ j ∧ j < 80) ∨ j = 1540) → w' j = w j) : IA w' := by
  intro a ha
  have k := h a ha
  have c := hC.1
  have b : (a : Int) < w 1540 → (w a).toNat < 10 := fun q => by have := k.2.2.2.2.2.1 q; omega
  rw [hw (20 + a) (by omega), hw (10 + a) (by omega), hw (60 + a) (by omega), hw (70 + a) (by omega), hw (50 + a) (by omega), hw a (by omega), hw 1540 (by omega)]
  refine ⟨k.1, k.2.1, k.2.2.1, k.2.2.2.1, k.2.2.2.2.1, k.2.2.2.2.2.1, fun q => ?_⟩
  have k2 := k.2.2.2.2.2.2 q
  rw [hw (10 + (w a).toNat) (by have := b k2.1; omega)]; exact k2
theorem IS.fr {w w' : Nat → Int} (h : IS w) (hw : ∀ j, ((180 ≤ j ∧ j < 192) ∨ (196 ≤ j ∧ j < 205) ∨ j = 1541) → w' j = w j) : IS w' := by
  refine ⟨fun s hs => ?_, fun k hk => ?_⟩
  · rw [hw (180 + s) (by omega), hw (184 + s) (by omega), hw (188 + s) (by omega), hw 1541 (by omega)]; exact h.1 s hs
  · rw [hw (196 + k) (by omega)]; exact h.2 k hk
theorem IH.fr {w w' : Nat → Int} (h : IH w) (hw : ∀ j, ((100 ≤ j ∧ j < 180) ∨ (192 ≤ j ∧ j < 196) ∨ j = 1540 ∨ j = 1541 ∨ (1130 ≤ j ∧ j < 1140)) → w' j = w j) : IH w' := by
  refine ⟨fun a s ha hs => ?_, fun s hs => ?_⟩
  · rw [hw (140 + 4 * a + s) (by omega), hw (100 + 4 * a + s) (by omega), hw 1540 (by omega), hw 1541 (by omega)]; exact h.1 a s ha hs
  · rw [sm_eq (g := fun a => w (100 + 4 * a + s)) 10 (fun a ha => hw _ (by omega)), hw (192 + s) (by omega), KQ_eq (w := w) (fun e he => hw _ (by omega))]; exact h.2 s hs
theorem II.fr {w w' : Nat → Int} (hC : IC w) (h : II w) (hw : ∀ j, ((210 ≤ j ∧ j < 770) ∨ (870 ≤ j ∧ j < 890) ∨ (1540 ≤ j ∧ j ≤ 1543)) → w' j = w j) : II w' := by
  intro i hi
  have c := hC.2.2.2.1
  obtain ⟨h1, h2⟩ := h i hi
  refine ⟨fun hl => ?_, fun hl => ?_⟩
  · rw [hw 1542 (by omega)] at hl
    have k := h1 hl
    have b : (w (650 + i)).toNat < 20 := by have := k.2.2.2.2.2.2.2.2.2.2.1; omega
    simp only [di, ri] at k ⊢
    simp (disch := omega) only [hw]
    exact k
  · rw [hw 1542 (by omega)] at hl
    rw [hw (570 + i) (by omega), hw (610 + i) (by omega), hw (690 + i) (by omega)]; exact h2 hl
theorem IT.fr {w w' : Nat → Int} (hC : IC w) (h : IT w) (hw : ∀ j, ((210 ≤ j ∧ j < 250) ∨ (570 ≤ j ∧ j < 610) ∨ (650 ≤ j ∧ j < 690) ∨ (730 ≤ j ∧ j < 890) ∨ j = 1542 ∨ j = 1543 ∨ j = 1547 ∨ (1130 ≤ j ∧ j < 1140)) → w' j = w j) : IT w' := by
  intro t ht
  have c := hC.2.2.1
  obtain ⟨h1, h2⟩ := h t ht
  have hK : KQ w' = KQ w := KQ_eq (fun e he => hw _ (by omega))
  refine ⟨fun hl => ?_, fun hl => ?_⟩
  · rw [hw 1543 (by omega)] at hl
    have k := h1 hl
    have b1 : (w (730 + t)).toNat < 40 := by have := k.1; omega
    have b2 : (w (750 + t)).toNat < 40 := by have := k.2.1; omega
    simp only [di, ri] at k ⊢
    rw [hK]
    simp (disch := omega) only [hw]
    exact k
  · rw [hw 1543 (by omega)] at hl
    rw [hw (850 + t) (by omega), hw (870 + t) (by omega)]; exact h2 hl
theorem IK.fr {w w' : Nat → Int} (h : IK w) (hw : ∀ j, ((890 ≤ j ∧ j < 920) ∨ j = 1543 ∨ j = 1544) → w' j = w j) : IK w' := by
  intro k hk hl
  rw [hw 1544 (by omega)] at hl
  rw [hw (890 + k) (by omega), hw (900 + k) (by omega), hw (910 + k) (by omega), hw 1543 (by omega)]; exact h k hk hl
theorem IL.fr {w w' : Nat → Int} (h : IL w) (hw : ∀ j, ((930 ≤ j ∧ j < 1050) ∨ j = 1540 ∨ j = 1541 ∨ j = 1545 ∨ (1130 ≤ j ∧ j < 1140)) → w' j = w j) : IL w' := by
  intro l hl hc
  rw [hw 1545 (by omega)] at hc
  rw [hw (930 + l) (by omega), hw (950 + l) (by omega), hw (970 + l) (by omega), hw (990 + l) (by omega), hw (1010 + l) (by omega), hw (1030 + l) (by omega), hw 1540 (by omega), hw 1541 (by omega), KQ_eq (w := w) (fun e he => hw _ (by omega))]; exact h l hl hc
theorem IE.fr {w w' : Nat → Int} (h : IE w) (hw : ∀ j, ((1050 ≤ j ∧ j < 1540) ∨ j = 1541 ∨ j = 1546) → w' j = w j) : IE w' := by
  intro e he
  have k := h e he
  have hK : KQ w' = KQ w := KQ_eq (fun e he => hw _ (by omega))
  have e1 : ∀ a : Nat, a < 10 → w' (1140 + 10 * e + a) = w (1140 + 10 * e + a) := fun a ha => hw _ (by omega)
  have e2 : ∀ a : Nat, a < 10 → w' (1240 + 10 * e + a) = w (1240 + 10 * e + a) := fun a ha => hw _ (by omega)
  have e3 : ∀ t : Nat, t < 20 → w' (1340 + 20 * e + t) = w (1340 + 20 * e + t) := fun a ha => hw _ (by omega)
  obtain ⟨k1, k2, k3, k4, k5, k6, k7⟩ := k
  rw [hw (1050 + e) (by omega), hw (1060 + e) (by omega), hw (1070 + e) (by omega), hw (1080 + e) (by omega), hw (1090 + e) (by omega), hw (1100 + e) (by omega), hw (1110 + e) (by omega), hw (1120 + e) (by omega), hw (1130 + e) (by omega), hw 1541 (by omega), hw 1546 (by omega), hK]
  refine ⟨k1, k2, k3, k4, fun q => ⟨fun a ha => ?_, fun t ht => ?_⟩, fun a ha => ?_, fun t ht => ?_⟩
  · rw [e1 a ha, e2 a ha]; exact (k5 q).1 a ha
  · rw [e3 t ht]; exact (k5 q).2 t ht
  · rw [e1 a ha, e2 a ha]; exact k6 a ha
  · rw [e3 t ht]; exact k7 t ht
theorem IY.fr {i : Int} {w w' : Nat → Int} (h : IY i w) (hw : ∀ j, ((1100 ≤ j ∧ j < 1140) ∨ j = 1546 ∨ j = 1547) → w' j = w j) : IY i w' := by
  intro e he hl
  rw [hw 1546 (by omega)] at hl
  rw [hw (1100 + e) (by omega), hw (1110 + e) (by omega), hw (1120 + e) (by omega), hw (1130 + e) (by omega), hw 1547 (by omega)]; exact h e he hl
theorem IM.fr {n : Int} {w w' : Nat → Int} (h : IM n w) (hw : ∀ j, 30 ≤ j → (j < 50 ∨ (80 ≤ j ∧ j < 90)) → w' j = w j) : IM n w' := by
  intro a ha
  rw [hw (30 + a) (by omega) (by omega), hw (40 + a) (by omega) (by omega), hw (80 + a) (by omega) (by omega)]; exact h a ha
theorem TF.fr {w w' : Nat → Int} {t : Nat} (h : TF w t) (hw : ∀ j, ((210 ≤ j ∧ j < 250) ∨ (330 ≤ j ∧ j < 370) ∨ (730 ≤ j ∧ j < 770)) → w' j = w j) : TF w' t ∧ di w' t = di w t ∧ ri w' t = ri w t ∧ dl w' t = dl w t ∧ rc w' t = rc w t ∧ pp w' t = pp w t := by
  obtain ⟨h0, h1, h2, h3⟩ := h
  have a1 : di w' t = di w t := by unfold di; rw [hw _ (by omega)]
  have a2 : ri w' t = ri w t := by unfold ri; rw [hw _ (by omega)]
  have a3 : dl w' t = dl w t := by unfold dl; rw [a1, hw _ (by omega)]
  have a4 : rc w' t = rc w t := by unfold rc; rw [a2, hw _ (by omega)]
  have a5 : pp w' t = pp w t := by unfold pp; rw [a1, hw _ (by omega)]
  refine ⟨?_, a1, a2, a3, a4, a5⟩
  unfold TF
  rw [a1, a2, a3, a4, a5, hw (730 + t) (by omega), hw (750 + t) (by omega), hw (210 + di w t) (by omega), hw (210 + ri w t) (by omega), hw (330 + di w t) (by omega)]
  exact ⟨h0, h1, h2, h3⟩
