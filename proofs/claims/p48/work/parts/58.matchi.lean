theorem IK.cntT {w w' : Nat → Int} (h : IK w) (hw : ∀ j, ((890 ≤ j ∧ j < 920) ∨ j = 1544) → w' j = w j) (h3 : w 1543 ≤ w' 1543) : IK w' := by
  intro k hk hl
  rw [hw 1544 (by omega)] at hl
  have q := h k hk hl
  rw [hw (890 + k) (by omega), hw (900 + k) (by omega), hw (910 + k) (by omega)]
  exact ⟨by omega, by omega, q.2.2⟩
theorem wMm_vs {w : Nat → Int} {t i k : Nat} (ht : t < 20) (hi : i < 40) (hk : k < 40) (hik : i ≠ k) (d r u am p l : Int) : wMm w t i k d r u am p l (570 + i) = 1 ∧ wMm w t i k d r u am p l (570 + k) = 1 ∧ wMm w t i k d r u am p l (650 + i) = (t : Int) ∧ wMm w t i k d r u am p l (650 + k) = (t : Int) := by
  unfold wMm; simp (disch := omega) only [ups_ne, ups_same]; exact ⟨trivial, trivial, trivial, trivial⟩
theorem wMm_vt {w : Nat → Int} {t i k : Nat} (ht : t < 20) (hi : i < 40) (hk : k < 40) (d r u am p l : Int) : wMm w t i k d r u am p l (730 + t) = d ∧ wMm w t i k d r u am p l (750 + t) = r ∧ wMm w t i k d r u am p l (770 + t) = u ∧ wMm w t i k d r u am p l (790 + t) = am ∧ wMm w t i k d r u am p l (810 + t) = p ∧ wMm w t i k d r u am p l (830 + t) = l ∧ wMm w t i k d r u am p l (850 + t) = 0 ∧ wMm w t i k d r u am p l (870 + t) = 0 := by
  unfold wMm; simp (disch := omega) only [ups_ne, ups_same]; exact ⟨trivial, trivial, trivial, trivial, trivial, trivial, trivial, trivial⟩
theorem wMm_ne {w : Nat → Int} {t i k : Nat} (d r u am p l : Int) (j : Nat) : j ≠ 730 + t → j ≠ 750 + t → j ≠ 770 + t → j ≠ 790 + t → j ≠ 810 + t → j ≠ 830 + t → j ≠ 850 + t → j ≠ 870 + t → j ≠ 570 + i → j ≠ 570 + k → j ≠ 650 + i → j ≠ 650 + k → j ≠ 1543 → wMm w t i k d r u am p l j = w j := fun a1 a2 a3 a4 a5 a6 a7 a8 a9 b1 b2 b3 b4 => by
  unfold wMm
  rw [ups_ne b4, ups_ne b3, ups_ne b2, ups_ne b1, ups_ne a9, ups_ne a8, ups_ne a7, ups_ne a6, ups_ne a5, ups_ne a4, ups_ne a3, ups_ne a2, ups_ne a1]
theorem wMm_nf {w : Nat → Int} {t i k : Nat} (ht : t < 20) (hi : i < 40) (hk : k < 40) (d r u am p l : Int) (j : Nat) (hj : j < 570 ∨ (610 ≤ j ∧ j < 650) ∨ (690 ≤ j ∧ j < 730) ∨ (890 ≤ j ∧ j ≠ 1543)) : wMm w t i k d r u am p l j = w j := wMm_ne d r u am p l j (by omega) (by omega) (by omega) (by omega) (by omega) (by omega) (by omega) (by omega) (by omega) (by omega) (by omega) (by omega) (by omega)
theorem wMm_nt {w : Nat → Int} {t i k : Nat} (ht : t < 20) (hi : i < 40) (hk : k < 40) (d r u am p l : Int) (lo v : Nat) (hv : v < 20) (hne : v ≠ t) (hlo : lo = 730 ∨ lo = 750 ∨ lo = 770 ∨ lo = 790 ∨ lo = 810 ∨ lo = 830 ∨ lo = 850 ∨ lo = 870) : wMm w t i k d r u am p l (lo + v) = w (lo + v) := wMm_ne d r u am p l _ (by omega) (by omega) (by omega) (by omega) (by omega) (by omega) (by omega) (by omega) (by omega) (by omega) (by omega) (by omega) (by omega)
theorem wMm_nx {w : Nat → Int} {t i k : Nat} (ht : t < 20) (hi : i < 40) (hk : k < 40) (d r u am p l : Int) (lo x : Nat) (hx : x < 40) (h1 : x ≠ i) (h2 : x ≠ k) (hlo : lo = 570 ∨ lo = 650) : wMm w t i k d r u am p l (lo + x) = w (lo + x) := wMm_ne d r u am p l _ (by omega) (by omega) (by omega) (by omega) (by omega) (by omega) (by omega) (by omega) (by omega) (by omega) (by omega) (by omega) (by omega)
set_option maxHeartbeats 4000000 in
theorem Inv0.match {w : Nat → Int} (h : Inv0 w) {i k t : Nat} (hil : (i : Int) < w 1542) (hkl : (k : Int) < w 1542) (hik : i ≠ k) (ht : t < 20) (hw : w 1543 = (t : Int)) (si : w (570 + i) = 0) (sk : w (570 + k) = 0) (hacc : w (210 + i) ≠ w (210 + k)) : Inv0 (wMa w i k t) := by
  obtain ⟨hC, hA, hS, hH, hI, hT, hK, hL, hE⟩ := h
  have c2 := hC.2.2.1
  have hi : i < 40 := by omega
  have hk : k < 40 := by omega
  have u7 := ((hT t ht).2 (by omega)).2
  have u5 := ((hT t ht).2 (by omega)).1
  have Ii := (hI i hi).1 hil
  have Ik := (hI k hk).1 hkl
  obtain ⟨d, r, hd, hr, hdr⟩ : ∃ d r : Nat, (if w (290 + i) = 0 then (k : Int) else (i : Int)) = (d : Int) ∧ (if w (290 + i) = 0 then (i : Int) else (k : Int)) = (r : Int) ∧ ((d = k ∧ r = i) ∨ (d = i ∧ r = k)) := by
    by_cases z : w (290 + i) = 0
    · exact ⟨k, i, by rw [if_pos z], by rw [if_pos z], Or.inl ⟨rfl, rfl⟩⟩
    · exact ⟨i, k, by rw [if_neg z], by rw [if_neg z], Or.inr ⟨rfl, rfl⟩⟩
  unfold wMa
  rw [hd, hr, ← wMm_eq ht hi hk hik u5 u7 hdr]
  have bu : 1 ≤ w (370 + i) ∧ w (370 + i) ≤ 100000 := Ii.2.2.2.2.1
  have ba : 0 ≤ min (w (410 + i)) (w (410 + k)) ∧ min (w (410 + i)) (w (410 + k)) ≤ 100000000 := by
    have := Ii.2.2.2.2.2.1; have := Ik.2.2.2.2.2.1; omega
  have bp : 0 ≤ max (w (490 + i)) (w (490 + k)) ∧ max (w (490 + i)) (w (490 + k)) ≤ 9 := by
    have := Ii.2.2.2.2.2.2.2.1; have := Ik.2.2.2.2.2.2.2.1; omega
  have bl : 0 ≤ sLe (w (530 + i)) (w (530 + k)) ∧ sLe (w (530 + i)) (w (530 + k)) ≤ 100000 := by
    have := Ii.2.2.2.2.2.2.2.2.1; have := Ik.2.2.2.2.2.2.2.2.1
    unfold sLe; split
    · omega
    · split <;> omega
  generalize w (370 + i) = u at *
  generalize min (w (410 + i)) (w (410 + k)) = am at *
  generalize max (w (490 + i)) (w (490 + k)) = p at *
  generalize sLe (w (530 + i)) (w (530 + k)) = l at *
  have nf := wMm_nf (w := w) ht hi hk d r u am p l
  have nt := wMm_nt (w := w) ht hi hk d r u am p l
  have nx := wMm_nx (w := w) ht hi hk d r u am p l
  have v43 : wMm w t i k d r u am p l 1543 = (t : Int) + 1 := by unfold wMm; rw [ups_same]
  have vs := wMm_vs (w := w) ht hi hk hik d r u am p l
  have vt := wMm_vt (w := w) ht hi hk d r u am p l
  clear Ii Ik
  generalize hX : wMm w t i k d r u am p l = X at *
  clear hX
  have hKQ : KQ X = KQ w := KQ_eq (fun e he => nf _ (by omega))
  have kq := KQ_ge w
  have dt : di X t = d ∧ ri X t = r := by unfold di ri; rw [vt.1, vt.2.1, Int.toNat_natCast, Int.toNat_natCast]; exact ⟨rfl, rfl⟩
  have du : ∀ v, v < 20 → v ≠ t → di X v = di w v ∧ ri X v = ri w v := fun v hv hne => by
    unfold di ri; rw [nt 730 v hv hne (by omega), nt 750 v hv hne (by omega)]; exact ⟨rfl, rfl⟩
  have day := hC.2.2.2.2.2.2.2
  refine ⟨?_, hA.fr hC (fun j hj => nf j (by omega)), hS.fr (fun j hj => nf j (by omega)), hH.fr (fun j hj => nf j (by omega)), ?_, ?_, hK.cntT (fun j hj => nf j (by omega)) (by rw [v43]; omega), hL.fr (fun j hj => nf j (by omega)), hE.fr (fun j hj => nf j (by omega))⟩
  · unfold IC
    rw [nf 1540 (by omega), nf 1541 (by omega), nf 1542 (by omega), v43, nf 1544 (by omega), nf 1545 (by omega), nf 1546 (by omega), nf 1547 (by omega)]
    exact ⟨hC.1, hC.2.1, hC.2.2.1, by omega, hC.2.2.2.2⟩
  · intro x hx
    have g : ∀ lo : Nat, (lo = 210 ∨ lo = 250 ∨ lo = 330 ∨ lo = 370 ∨ lo = 410 ∨ lo = 450 ∨ lo = 490 ∨ lo = 530 ∨ lo = 290 ∨ lo = 610 ∨ lo = 690) → X (lo + x) = w (lo + x) := fun lo hlo => nf _ (by omega)
    rw [nf 1542 (by omega), v43, nf 1540 (by omega), nf 1541 (by omega), g 210 (by omega), g 250 (by omega), g 330 (by omega), g 370 (by omega), g 410 (by omega), g 450 (by omega), g 490 (by omega), g 530 (by omega), g 290 (by omega), g 610 (by omega), g 690 (by omega)]
    have kx := hI x hx
    refine ⟨fun hl => ?_, fun hl => ?_⟩
    · obtain ⟨k1, k2, k3, k4, k5, k6, k7, k8, k9, k10, k11, k12, k13⟩ := kx.1 hl
      by_cases q : x = i ∨ x = k
      · have e1 : X (570 + x) = 1 ∧ X (650 + x) = (t : Int) := by
          rcases q with q | q
          · rw [q]; exact ⟨vs.1, vs.2.2.1⟩
          · rw [q]; exact ⟨vs.2.1, vs.2.2.2⟩
        rw [e1.1, e1.2, Int.toNat_natCast, dt.1, dt.2, vt.2.2.2.2.2.2.2]
        exact ⟨k1, k2, k3, k4, k5, k6, k7, k8, k9, by omega, by omega, fun _ => ⟨by omega, rfl, by omega⟩, k13⟩
      · rw [nx 570 x hx (by omega) (by omega) (by omega), nx 650 x hx (by omega) (by omega) (by omega)]
        refine ⟨k1, k2, k3, k4, k5, k6, k7, k8, k9, k10, by omega, fun z => ?_, k13⟩
        obtain ⟨c1, c2, c3⟩ := k12 z
        rw [nt 870 _ (by omega) (by omega) (by omega), (du _ (by omega) (by omega)).1, (du _ (by omega) (by omega)).2]
        exact ⟨c1, c2, c3⟩
    · rw [nx 570 x hx (by omega) (by omega) (by omega)]; exact kx.2 hl
  · intro v hv
    rw [nf 1542 (by omega), v43, hKQ, nf 1547 (by omega)]
    have kv := hT v hv
    by_cases q : v = t
    · subst q
      refine ⟨fun _ => ?_, fun z => by omega⟩
      rw [dt.1, dt.2, vt.1, vt.2.1, vt.2.2.1, vt.2.2.2.1, vt.2.2.2.2.1, vt.2.2.2.2.2.1, vt.2.2.2.2.2.2.1, vt.2.2.2.2.2.2.2, nf (210 + d) (by omega), nf (210 + r) (by omega)]
      rcases hdr with ⟨rfl, rfl⟩ | ⟨rfl, rfl⟩
      · rw [vs.1, vs.2.1, vs.2.2.1, vs.2.2.2]
        exact ⟨by omega, by omega, fun z => hacc z.symm, by omega, fun _ => by omega, by omega, by omega, by omega, by omega, by omega, by omega, by omega, rfl, rfl⟩
      · rw [vs.1, vs.2.1, vs.2.2.1, vs.2.2.2]
        exact ⟨by omega, by omega, hacc, by omega, fun _ => by omega, by omega, by omega, by omega, by omega, by omega, by omega, by omega, rfl, rfl⟩
    · rw [(du v hv q).1, (du v hv q).2, nt 730 v hv q (by omega), nt 750 v hv q (by omega), nt 770 v hv q (by omega), nt 790 v hv q (by omega), nt 810 v hv q (by omega), nt 830 v hv q (by omega), nt 850 v hv q (by omega), nt 870 v hv q (by omega)]
      refine ⟨fun hl => ?_, fun hl => ?_⟩
      · obtain ⟨k1, k2, k3, k4, k5, k6, k7, k8, k9, k10, k11, k12, k13, k14⟩ := kv.1 (by omega)
        have dv : di w v < 40 := by unfold di; omega
        have rv : ri w v < 40 := by unfold ri; omega
        have n1 : di w v ≠ i := fun z => by rw [z] at k11; omega
        have n2 : di w v ≠ k := fun z => by rw [z] at k11; omega
        have n3 : ri w v ≠ i := fun z => by rw [z] at k12; omega
        have n4 : ri w v ≠ k := fun z => by rw [z] at k12; omega
        rw [nf (210 + di w v) (by omega), nf (210 + ri w v) (by omega), nx 570 _ dv n1 n2 (by omega), nx 570 _ rv n3 n4 (by omega), nx 650 _ dv n1 n2 (by omega), nx 650 _ rv n3 n4 (by omega)]
        exact ⟨k1, k2, k3, k4, k5, k6, k7, k8, k9, k10, k11, k12, k13, k14⟩
      · exact kv.2 (by omega)
