theorem f_cnt : cj 1540 = (3, 9) ∧ cj 1542 = (3, 11) ∧ cj 1543 = (3, 12) ∧ cj 1544 = (3, 13) ∧ cj 1545 = (3, 14) ∧ mpd 1540 = true ∧ mpd 1542 = true ∧ mpd 1543 = true ∧ mpd 1544 = true ∧ mpd 1545 = true := by decide +kernel
/-- a count changes: what counts then must be alike -/
theorem R1.cnt {M : xM} {w : Nat → Int} (h : R1 M w) {j k : Nat} {v : Int} (hm : mpd j = true) (hc : cj j = (3, k)) (ho : off j = 0) (hl : ∀ i, i ≠ j → mpd i = true → live (ups w j v) i → ¬ live w i → M (cj i).1 (cj i).2 = w i + off i) : R1 (xup M 3 k v) (ups w j v) := by
  intro i hi hv
  by_cases q : i = j
  · subst q; rw [hc, xup_same, ups_same, ho, Int.add_zero]
  · have hne : ¬ ((cj i).1 = 3 ∧ (cj i).2 = k) := fun z => q (mpd_inj hi hm (by rw [hc, ← z.1, ← z.2]))
    rw [xup_ne hne, ups_ne q]
    rcases Classical.em (live w i) with q2 | q2
    · exact h i hi q2
    · exact hl i q hi hv q2
theorem R.cntA {M : xM} {w : Nat → Int} (h : R M w) {a : Nat} (ha : a < 10) (hw : w 1540 = (a : Int)) (hr : M (12 + 4 * a) 1 = w a) {v : Int} (hv : v = (a : Int) + 1) : R (xup M 3 9 v) (ups w 1540 v) := by
  obtain ⟨c0, -, -, -, -, m0, -⟩ := f_cnt
  refine ⟨h.1.cnt m0 c0 (by decide) (fun i hi hm hl hn => ?_), h.2.1.fr (fun c k q => xup_c (fun z => by subst z; simp [tcT] at q)) (fun j q => ups_ne (fun z => by subst z; simp [tjT] at q)), h.2.2.1.fr (fun l q => ⟨xup_c (by omega), xup_c (by omega)⟩) (fun l q => ups_ne (by omega)) (ups_ne (by omega)), h.2.2.2.fr (fun t q => xup_c (by omega)) (fun l q q2 => ⟨xup_c (by omega), xup_c (by omega)⟩) (fun i q q2 => xup_c (by omega)) (Int.le_of_eq (ups_ne (by omega)).symm) (Int.le_of_eq (ups_ne (by omega)).symm)⟩
  have e : i = a := by
    unfold live at hl hn
    rw [ups_same, ups_ne (i := 1542) (by omega), ups_ne (i := 1544) (by omega), ups_ne (i := 1545) (by omega)] at hl
    obtain ⟨l1, l2⟩ := hl
    by_cases q : i < 10
    · have := l1 q
      by_cases q2 : (i : Int) < w 1540
      · exact absurd ⟨fun _ => q2, l2⟩ hn
      · omega
    · exact absurd ⟨fun z => absurd z q, l2⟩ hn
  subst e
  obtain ⟨f1, -, f3, -⟩ := f_cust i ha
  rw [f1, f3, Int.add_zero]; exact hr
theorem live_I {w : Nat → Int} {i : Nat} {v : Int} (hl : live (ups w 1542 v) i) (hn : ¬ live w i) : 650 ≤ i ∧ i < 690 ∧ (i : Int) - 650 < v ∧ w 1542 ≤ (i : Int) - 650 := by
  unfold live at hl hn
  rw [ups_same, ups_ne (i := 1540) (by omega), ups_ne (i := 1544) (by omega), ups_ne (i := 1545) (by omega)] at hl
  obtain ⟨l1, l2, l3⟩ := hl
  by_cases q : 650 ≤ i ∧ i < 690
  · have := l2 q.1 q.2
    by_cases q2 : (i : Int) - 650 < w 1542
    · exact absurd ⟨l1, fun _ _ => q2, l3⟩ hn
    · exact ⟨q.1, q.2, this, by omega⟩
  · exact absurd ⟨l1, fun a b => absurd ⟨a, b⟩ q, l3⟩ hn
theorem R.cntI {M : xM} {w : Nat → Int} (h : R M w) {i : Nat} (hi : i < 40) (hw : w 1542 = (i : Int)) (hr : M (61 + i) 10 = w (650 + i)) {v : Int} (hv : v = (i : Int) + 1) : R (xup M 3 11 v) (ups w 1542 v) := by
  obtain ⟨-, c0, -, -, -, -, m0, -⟩ := f_cnt
  refine ⟨h.1.cnt m0 c0 (by decide) (fun j hj hm hl hn => ?_), h.2.1.fr (fun c k q => xup_c (fun z => by subst z; simp [tcT] at q)) (fun j q => ups_ne (fun z => by subst z; simp [tjT] at q)), h.2.2.1.fr (fun l q => ⟨xup_c (by omega), xup_c (by omega)⟩) (fun l q => ups_ne (by omega)) (ups_ne (by omega)), h.2.2.2.fr (fun t q => xup_c (by omega)) (fun l q q2 => ⟨xup_c (by omega), xup_c (by omega)⟩) (fun i q q2 => xup_c (by omega)) (Int.le_of_eq (ups_ne (by omega)).symm) (by rw [ups_same]; omega)⟩
  obtain ⟨l1, l2, l3, l4⟩ := live_I hl hn
  have e : j = 650 + i := by omega
  subst e
  obtain ⟨f1, -, f3, -⟩ := f_itr i hi
  rw [f1, f3, Int.add_zero]; exact hr
theorem live_K {w : Nat → Int} {i : Nat} {v : Int} (hl : live (ups w 1544 v) i) (hn : ¬ live w i) : ∃ k : Nat, k < 10 ∧ (k : Int) < v ∧ w 1544 ≤ (k : Int) ∧ (i = 890 + k ∨ i = 900 + k ∨ i = 910 + k) := by
  unfold live at hl hn
  rw [ups_same, ups_ne (i := 1540) (by omega), ups_ne (i := 1542) (by omega), ups_ne (i := 1545) (by omega)] at hl
  obtain ⟨l1, l2, l3, l4, l5, l6⟩ := hl
  by_cases q1 : 890 ≤ i → i < 900 → (i : Int) - 890 < w 1544
  · by_cases q2 : 900 ≤ i → i < 910 → (i : Int) - 900 < w 1544
    · by_cases q3 : 910 ≤ i → i < 920 → (i : Int) - 910 < w 1544
      · exact absurd ⟨l1, l2, q1, q2, q3, l6⟩ hn
      · exact ⟨i - 910, by omega, by omega, by omega, by omega⟩
    · exact ⟨i - 900, by omega, by omega, by omega, by omega⟩
  · exact ⟨i - 890, by omega, by omega, by omega, by omega⟩
theorem R.cntK {M : xM} {w : Nat → Int} (h : R M w) {v : Int} (hr : ∀ k : Nat, k < 10 → (k : Int) < v → w 1544 ≤ (k : Int) → M (123 + k) 0 = w (890 + k) ∧ M (123 + k) 1 = w (900 + k) ∧ M (123 + k) 2 = w (910 + k)) : R (xup M 3 13 v) (ups w 1544 v) := by
  obtain ⟨-, -, -, c0, -, -, -, -, m0, -⟩ := f_cnt
  refine ⟨h.1.cnt m0 c0 (by decide) (fun j hj hm hl hn => ?_), h.2.1.fr (fun c k q => xup_c (fun z => by subst z; simp [tcT] at q)) (fun j q => ups_ne (fun z => by subst z; simp [tjT] at q)), h.2.2.1.fr (fun l q => ⟨xup_c (by omega), xup_c (by omega)⟩) (fun l q => ups_ne (by omega)) (ups_ne (by omega)), h.2.2.2.fr (fun t q => xup_c (by omega)) (fun l q q2 => ⟨xup_c (by omega), xup_c (by omega)⟩) (fun i q q2 => xup_c (by omega)) (Int.le_of_eq (ups_ne (by omega)).symm) (Int.le_of_eq (ups_ne (by omega)).symm)⟩
  obtain ⟨k, k1, k2, k3, k4⟩ := live_K hl hn
  obtain ⟨r1, r2, r3⟩ := hr k k1 k2 k3
  rcases k4 with rfl | rfl | rfl
  · obtain ⟨f1, -, f3, -⟩ := f_kfst k k1; rw [f1, f3, Int.add_zero]; exact r1
  · obtain ⟨f1, -, f3, -⟩ := f_ksnd k k1; rw [f1, f3, Int.add_zero]; exact r2
  · obtain ⟨f1, -, f3, -⟩ := f_kwit k k1; rw [f1, f3, Int.add_zero]; exact r3
theorem live_L {w : Nat → Int} {i : Nat} {v : Int} (hl : live (ups w 1545 v) i) (hn : ¬ live w i) : ∃ k : Nat, k < 20 ∧ (k : Int) < v ∧ w 1545 ≤ (k : Int) ∧ (i = 930 + k ∨ i = 950 + k ∨ i = 970 + k ∨ i = 1010 + k ∨ i = 1030 + k) := by
  unfold live at hl hn
  rw [ups_same, ups_ne (i := 1540) (by omega), ups_ne (i := 1542) (by omega), ups_ne (i := 1544) (by omega)] at hl
  obtain ⟨l1, l2, l3, l4, l5, l6, l7, l8, l9, l10⟩ := hl
  by_cases q1 : 930 ≤ i → i < 950 → (i : Int) - 930 < w 1545
  · by_cases q2 : 950 ≤ i → i < 970 → (i : Int) - 950 < w 1545
    · by_cases q3 : 970 ≤ i → i < 990 → (i : Int) - 970 < w 1545
      · by_cases q4 : 1010 ≤ i → i < 1030 → (i : Int) - 1010 < w 1545
        · by_cases q5 : 1030 ≤ i → i < 1050 → (i : Int) - 1030 < w 1545
          · exact absurd ⟨l1, l2, l3, l4, l5, q1, q2, q3, q4, q5⟩ hn
          · exact ⟨i - 1030, by omega, by omega, by omega, by omega⟩
        · exact ⟨i - 1010, by omega, by omega, by omega, by omega⟩
      · exact ⟨i - 970, by omega, by omega, by omega, by omega⟩
    · exact ⟨i - 950, by omega, by omega, by omega, by omega⟩
  · exact ⟨i - 930, by omega, by omega, by omega, by omega⟩
theorem R.cntL {M : xM} {w : Nat → Int} (h : R M w) {l : Nat} (hl : l < 20) (hw : w 1545 = (l : Int)) (r1 : M (134 + l) 1 = w (930 + l)) (r2 : M (134 + l) 0 = w (950 + l)) (r3 : M (134 + l) 2 = w (970 + l)) (r4 : M (134 + l) 4 = w (1010 + l)) (r5 : w (1030 + l) = 0) (r6 : M (134 + l) 3 = w (990 + l)) (r7 : 0 ≤ w (990 + l)) {v : Int} (hv : v = (l : Int) + 1) : R (xup M 3 14 v) (ups w 1545 v) := by
  obtain ⟨-, -, -, -, c0, -, -, -, -, m0⟩ := f_cnt
  have hci := h.2.2.2.2.1 l hl (by omega)
  refine ⟨h.1.cnt m0 c0 (by decide) (fun j hj hm hl hn => ?_), h.2.1.fr (fun c k q => xup_c (fun z => by subst z; simp [tcT] at q)) (fun j q => ups_ne (fun z => by subst z; simp [tjT] at q)), fun i hi hc => ?_, h.2.2.2.fr (fun t q => xup_c (by omega)) (fun l q q2 => ⟨xup_c (by omega), xup_c (by omega)⟩) (fun i q q2 => xup_c (by omega)) (by rw [ups_same]; omega) (Int.le_of_eq (ups_ne (by omega)).symm)⟩
  · obtain ⟨k, k1, k2, k3, k4⟩ := live_L hl hn
    have e : k = l := by omega
    subst e
    rcases k4 with rfl | rfl | rfl | rfl | rfl
    · obtain ⟨f1, -, f3, -⟩ := f_lbor k k1; rw [f1, f3, Int.add_zero]; exact r1
    · obtain ⟨f1, -, f3, -⟩ := f_llen k k1; rw [f1, f3, Int.add_zero]; exact r2
    · obtain ⟨f1, -, f3, -⟩ := f_lsec k k1; rw [f1, f3, Int.add_zero]; exact r3
    · obtain ⟨f1, -, f3, -⟩ := f_lple k k1; rw [f1, f3, Int.add_zero]; exact r4
    · obtain ⟨f1, -, f3, -⟩ := f_lrec k k1; rw [f1, f3, Int.add_zero, hci.1, r5]
  · rw [ups_same] at hc
    rw [xup_c (by omega), xup_c (by omega), ups_ne (by omega)]
    by_cases q : i = l
    · subst q; exact Or.inl ⟨hci.2, r6, r7⟩
    · exact h.2.2.1 i hi (by omega)
theorem R.cntT {M : xM} {w : Nat → Int} (h : R M w) {t : Nat} (ht : t < 20) (hw : w 1543 = (t : Int)) (hr : di w t < 40 ∧ ri w t < 40 ∧ M (102 + t) 3 = w (210 + di w t) ∧ M (102 + t) 4 = w (210 + ri w t) ∧ M (102 + t) 5 = w (330 + di w t) ∧ M (102 + t) 9 = w (450 + di w t)) {v : Int} (hv : v = (t : Int) + 1) : R (xup M 3 12 v) (ups w 1543 v) := by
  obtain ⟨-, -, c0, -, -, -, -, m0, -, -⟩ := f_cnt
  refine ⟨h.1.up m0 c0 (show v = v + off 1543 from by rw [show off 1543 = 0 from by decide, Int.add_zero]) (by omega) (by omega) (by omega) (by omega), fun i hi hc => ?_, h.2.2.1.fr (fun l q => ⟨xup_c (by omega), xup_c (by omega)⟩) (fun l q => ups_ne (by omega)) (ups_ne (by omega)), h.2.2.2.fr (fun t q => xup_c (by omega)) (fun l q q2 => ⟨xup_c (by omega), xup_c (by omega)⟩) (fun i q q2 => xup_c (by omega)) (Int.le_of_eq (ups_ne (by omega)).symm) (Int.le_of_eq (ups_ne (by omega)).symm)⟩
  rw [ups_same] at hc
  have key : di w i < 40 ∧ ri w i < 40 ∧ M (102 + i) 3 = w (210 + di w i) ∧ M (102 + i) 4 = w (210 + ri w i) ∧ M (102 + i) 5 = w (330 + di w i) ∧ M (102 + i) 9 = w (450 + di w i) := by
    by_cases q : i = t
    · subst q; exact hr
    · exact h.2.1 i hi (by omega)
  have e1 : di (ups w 1543 v) i = di w i := by unfold di; rw [ups_ne (by omega)]
  have e2 : ri (ups w 1543 v) i = ri w i := by unfold ri; rw [ups_ne (by omega)]
  rw [e1, e2, xup_c (by omega), xup_c (by omega), xup_c (by omega), xup_c (by omega), ups_ne (by omega), ups_ne (by omega), ups_ne (by omega), ups_ne (by omega)]; exact key
/-- an instruction that no trade has -/
theorem R.i_up {M : xM} {w : Nat → Int} (h : R M w) {j c k i : Nat} {v : Int} (hm : mpd j = true) (hc : cj j = (c, k)) (ho : off j = 0) (hj : j = 210 + i ∨ j = 330 + i ∨ j = 450 + i) (hi : i < 40) (hci : c = 61 + i ∧ k ≠ 10) (hn : ∀ t : Nat, t < 20 → (t : Int) < w 1543 → di w t ≠ i ∧ ri w t ≠ i) : R (xup M c k v) (ups w j v) := by
  refine ⟨h.1.up hm hc (by rw [ho, Int.add_zero]) (by omega) (by omega) (by omega) (by omega), fun t ht hl => ?_, h.2.2.1.fr (fun l q => ⟨xup_c (by omega), xup_c (by omega)⟩) (fun l q => ups_ne (by omega)) (ups_ne (by omega)), h.2.2.2.fr (fun t q => xup_c (by omega)) (fun l q q2 => ⟨xup_c (by omega), xup_c (by omega)⟩) (fun i q q2 => xup_ne (by omega)) (Int.le_of_eq (ups_ne (by omega)).symm) (Int.le_of_eq (ups_ne (by omega)).symm)⟩
  rw [ups_ne (by omega)] at hl
  obtain ⟨d1, d2⟩ := hn t ht hl
  obtain ⟨k1, k2, k3⟩ := h.2.1 t ht hl
  have e1 : di (ups w j v) t = di w t := by unfold di; rw [ups_ne (by omega)]
  have e2 : ri (ups w j v) t = ri w t := by unfold ri; rw [ups_ne (by omega)]
  rw [e1, e2, xup_c (by omega), xup_c (by omega), xup_c (by omega), xup_c (by omega), ups_ne (i := 210 + di w t) (by omega), ups_ne (i := 210 + ri w t) (by omega), ups_ne (i := 330 + di w t) (by omega), ups_ne (i := 450 + di w t) (by omega)]; exact ⟨k1, k2, k3⟩
theorem R.iacc_up {M : xM} {w : Nat → Int} (h : R M w) {i : Nat} {v : Int} (hi : i < 40) (hn : ∀ t : Nat, t < 20 → (t : Int) < w 1543 → di w t ≠ i ∧ ri w t ≠ i) : R (xup M (61 + i) 0 v) (ups w (210 + i) v) := by
  obtain ⟨f1, f2, f3, -⟩ := f_iacc i hi
  exact h.i_up f2 f1 f3 (Or.inl rfl) hi ⟨rfl, by omega⟩ hn
theorem R.isec_up {M : xM} {w : Nat → Int} (h : R M w) {i : Nat} {v : Int} (hi : i < 40) (hn : ∀ t : Nat, t < 20 → (t : Int) < w 1543 → di w t ≠ i ∧ ri w t ≠ i) : R (xup M (61 + i) 3 v) (ups w (330 + i) v) := by
  obtain ⟨f1, f2, f3, -⟩ := f_isec i hi
  exact h.i_up f2 f1 f3 (Or.inr (Or.inl rfl)) hi ⟨rfl, by omega⟩ hn
theorem R.idate_up {M : xM} {w : Nat → Int} (h : R M w) {i : Nat} {v : Int} (hi : i < 40) (hn : ∀ t : Nat, t < 20 → (t : Int) < w 1543 → di w t ≠ i ∧ ri w t ≠ i) : R (xup M (61 + i) 6 v) (ups w (450 + i) v) := by
  obtain ⟨f1, f2, f3, -⟩ := f_idate i hi
  exact h.i_up f2 f1 f3 (Or.inr (Or.inr rfl)) hi ⟨rfl, by omega⟩ hn
theorem R.itr_up {M : xM} {w : Nat → Int} (h : R M w) {i : Nat} {v : Int} (hi : i < 40) (hl : (i : Int) < w 1542) : R (xup M (61 + i) 10 v) (ups w (650 + i) v) := by
  obtain ⟨f1, f2, f3, -⟩ := f_itr i hi
  exact ⟨h.1.up f2 f1 (by rw [f3]; omega) (by omega) (by omega) (by omega) (by omega), h.2.1.fr (fun c k q => xup_ne (fun z => by rw [z.1, z.2] at q; simp [tcT] at q)) (fun j q => ups_ne (fun z => by subst z; simp [tjT] at q; omega)), h.2.2.1.fr (fun l q => ⟨xup_c (by omega), xup_c (by omega)⟩) (fun l q => ups_ne (by omega)) (ups_ne (by omega)), h.2.2.2.fr (fun t q => xup_c (by omega)) (fun l q q2 => ⟨xup_c (by omega), xup_c (by omega)⟩) (fun i q q2 => xup_ne (by omega)) (Int.le_of_eq (ups_ne (by omega)).symm) (Int.le_of_eq (ups_ne (by omega)).symm)⟩
theorem R.itr_dead {M : xM} {w : Nat → Int} (h : R M w) {i : Nat} {v : Int} (hi : i < 40) (hl : w 1542 ≤ (i : Int)) : R M (ups w (650 + i) v) := by
  exact ⟨h.1.mdl (Or.inr (fun z => by have := z.2.1 (by omega) (by omega); omega)) (by omega) (by omega) (by omega) (by omega), h.2.1.fr (fun c k q => rfl) (fun j q => ups_ne (fun z => by subst z; simp [tjT] at q; omega)), h.2.2.1.fr (fun l q => ⟨rfl, rfl⟩) (fun l q => ups_ne (by omega)) (ups_ne (by omega)), h.2.2.2.fr (fun t q => rfl) (fun l q q2 => ⟨rfl, rfl⟩) (fun i q q2 => rfl) (Int.le_of_eq (ups_ne (by omega)).symm) (Int.le_of_eq (ups_ne (by omega)).symm)⟩
/-- a trade that doesn't count yet -/
theorem R.t_up {M : xM} {w : Nat → Int} (h : R M w) {j c k t : Nat} {v : Int} (hm : mpd j = true) (hc : cj j = (c, k)) (ho : off j = 0) (hj : j = 730 + t ∨ j = 750 + t) (ht : t < 20) (hci : c = 102 + t ∧ k ≠ 0 ∧ k ≠ 3 ∧ k ≠ 4 ∧ k ≠ 5 ∧ k ≠ 9) (hn : w 1543 ≤ (t : Int)) : R (xup M c k v) (ups w j v) := by
  refine ⟨h.1.up hm hc (by rw [ho, Int.add_zero]) (by omega) (by omega) (by omega) (by omega), fun i hi hl => ?_, h.2.2.1.fr (fun l q => ⟨xup_c (by omega), xup_c (by omega)⟩) (fun l q => ups_ne (by omega)) (ups_ne (by omega)), h.2.2.2.fr (fun t q => xup_ne (by omega)) (fun l q q2 => ⟨xup_c (by omega), xup_c (by omega)⟩) (fun i q q2 => xup_c (by omega)) (Int.le_of_eq (ups_ne (by omega)).symm) (Int.le_of_eq (ups_ne (by omega)).symm)⟩
  rw [ups_ne (by omega)] at hl
  obtain ⟨k1, k2, k3⟩ := h.2.1 i hi hl
  have e1 : di (ups w j v) i = di w i := by unfold di; rw [ups_ne (by omega)]
  have e2 : ri (ups w j v) i = ri w i := by unfold ri; rw [ups_ne (by omega)]
  rw [e1, e2, xup_ne (by omega), xup_ne (by omega), xup_ne (by omega), xup_ne (by omega), ups_ne (i := 210 + di w i) (by omega), ups_ne (i := 210 + ri w i) (by omega), ups_ne (i := 330 + di w i) (by omega), ups_ne (i := 450 + di w i) (by omega)]; exact ⟨k1, k2, k3⟩
theorem R.tdel_up {M : xM} {w : Nat → Int} (h : R M w) {t : Nat} {v : Int} (ht : t < 20) (hn : w 1543 ≤ (t : Int)) : R (xup M (102 + t) 1 v) (ups w (730 + t) v) := by
  obtain ⟨f1, f2, f3, -⟩ := f_tdel t ht
  exact h.t_up f2 f1 f3 (Or.inl rfl) ht ⟨rfl, by omega, by omega, by omega, by omega, by omega⟩ hn
theorem R.trec_up {M : xM} {w : Nat → Int} (h : R M w) {t : Nat} {v : Int} (ht : t < 20) (hn : w 1543 ≤ (t : Int)) : R (xup M (102 + t) 2 v) (ups w (750 + t) v) := by
  obtain ⟨f1, f2, f3, -⟩ := f_trec t ht
  exact h.t_up f2 f1 f3 (Or.inr rfl) ht ⟨rfl, by omega, by omega, by omega, by omega, by omega⟩ hn
/-- what a trade keeps, before it counts -/
theorem R.tx_up {M : xM} {w : Nat → Int} (h : R M w) {t k : Nat} {v : Int} (ht : t < 20) (hn : w 1543 ≤ (t : Int)) (hk : k = 3 ∨ k = 4 ∨ k = 5 ∨ k = 9) : R (xup M (102 + t) k v) w := by
  obtain ⟨j0, j3, j4, j5, j9⟩ := jcT_n t ht
  refine ⟨h.1.cls (by rcases hk with rfl | rfl | rfl | rfl <;> omega), fun i hi hl => ?_, h.2.2.1.fr (fun l q => ⟨xup_c (by omega), xup_c (by omega)⟩) (fun l q => rfl) rfl, h.2.2.2.fr (fun t q => xup_ne (by omega)) (fun l q q2 => ⟨xup_c (by omega), xup_c (by omega)⟩) (fun i q q2 => xup_c (by omega)) (Int.le_refl _) (Int.le_refl _)⟩
  rw [xup_c (by omega), xup_c (by omega), xup_c (by omega), xup_c (by omega)]; exact h.2.1 i hi hl
/-- a loan that doesn't count yet -/
theorem R.lu_up {M : xM} {w : Nat → Int} (h : R M w) {l : Nat} {v : Int} (hl : l < 20) (hn : w 1545 ≤ (l : Int)) : R (xup M (134 + l) 3 v) w := by
  obtain ⟨j3, j6, j5⟩ := jcL_n l hl
  refine ⟨h.1.cls (by omega), h.2.1.fr (fun c k q => xup_c (fun z => by subst z; simp [tcT] at q; omega)) (fun _ _ => rfl), fun i hi hc => ?_, h.2.2.2.fr (fun t q => xup_c (by omega)) (fun i q q2 => ⟨xup_ne (by omega), xup_ne (by omega)⟩) (fun i q q2 => xup_c (by omega)) (Int.le_refl _) (Int.le_refl _)⟩
  rw [xup_ne (by omega), xup_c (by omega)]; exact h.2.2.1 i hi hc
theorem R.lx_dead {M : xM} {w : Nat → Int} (h : R M w) {l j : Nat} {v : Int} (hl : l < 20) (hn : w 1545 ≤ (l : Int)) (hj : j = 930 + l ∨ j = 950 + l ∨ j = 970 + l ∨ j = 990 + l ∨ j = 1010 + l ∨ j = 1030 + l) : R M (ups w j v) := by
  refine ⟨h.1.mdl ?_ (by omega) (by omega) (by omega) (by omega), h.2.1.fr (fun c k q => rfl) (fun j q => ups_ne (fun z => by subst z; simp [tjT] at q; omega)), fun i hi hc => ?_, h.2.2.2.fr (fun t q => rfl) (fun l q q2 => ⟨rfl, rfl⟩) (fun i q q2 => rfl) (Int.le_of_eq (ups_ne (by omega)).symm) (Int.le_of_eq (ups_ne (by omega)).symm)⟩
  · rcases hj with rfl | rfl | rfl | rfl | rfl | rfl
    · exact Or.inr (fun z => by have := z.2.2.2.2.2.1 (by omega) (by omega); omega)
    · exact Or.inr (fun z => by have := z.2.2.2.2.2.2.1 (by omega) (by omega); omega)
    · exact Or.inr (fun z => by have := z.2.2.2.2.2.2.2.1 (by omega) (by omega); omega)
    · exact Or.inl ((show ∀ l : Nat, l < 20 → mpd (990 + l) = false by decide +kernel) l hl)
    · exact Or.inr (fun z => by have := z.2.2.2.2.2.2.2.2.1 (by omega) (by omega); omega)
    · exact Or.inr (fun z => by have := z.2.2.2.2.2.2.2.2.2 (by omega) (by omega); omega)
  · rw [ups_ne (by omega)] at hc
    rw [ups_ne (by omega)]; exact h.2.2.1 i hi hc
/-- a loan is given back -/
theorem R.lback_up {M : xM} {w : Nat → Int} (h : R M w) {l : Nat} (hl : l < 20) (hlv : (l : Int) < w 1545) : R (xup M (134 + l) 6 1) (ups w (990 + l) (-1)) := by
  obtain ⟨j3, j6, j5⟩ := jcL_n l hl
  have hmp : mpd (990 + l) = false := (show ∀ l : Nat, l < 20 → mpd (990 + l) = false by decide +kernel) l hl
  refine ⟨(h.1.cls (by omega)).mdl (Or.inl hmp) (by omega) (by omega) (by omega) (by omega), h.2.1.fr (fun c k q => xup_c (fun z => by subst z; simp [tcT] at q; omega)) (fun j q => ups_ne (fun z => by subst z; simp [tjT] at q; omega)), fun i hi hc => ?_, h.2.2.2.fr (fun t q => xup_c (by omega)) (fun i q q2 => ⟨xup_ne (by omega), xup_ne (by omega)⟩) (fun i q q2 => xup_c (by omega)) (Int.le_of_eq (ups_ne (by omega)).symm) (Int.le_of_eq (ups_ne (by omega)).symm)⟩
  rw [ups_ne (by omega)] at hc
  by_cases q : i = l
  · subst q; rw [xup_same, ups_same]; exact Or.inr ⟨rfl, rfl⟩
  · rw [xup_c (by omega), xup_c (by omega), ups_ne (by omega)]; exact h.2.2.1 i hi hc
/-- the units of a loan that is not back -/
theorem R.lun_up {M : xM} {w : Nat → Int} (h : R M w) {l : Nat} {v : Int} (hl : l < 20) (hb : M (134 + l) 6 = 0) (h0 : 0 ≤ v) : R (xup M (134 + l) 3 v) (ups w (990 + l) v) := by
  obtain ⟨j3, j6, j5⟩ := jcL_n l hl
  have hmp : mpd (990 + l) = false := (show ∀ l : Nat, l < 20 → mpd (990 + l) = false by decide +kernel) l hl
  refine ⟨(h.1.cls (by omega)).mdl (Or.inl hmp) (by omega) (by omega) (by omega) (by omega), h.2.1.fr (fun c k q => xup_c (fun z => by subst z; simp [tcT] at q; omega)) (fun j q => ups_ne (fun z => by subst z; simp [tjT] at q; omega)), fun i hi hc => ?_, h.2.2.2.fr (fun t q => xup_c (by omega)) (fun i q q2 => ⟨xup_ne (by omega), xup_ne (by omega)⟩) (fun i q q2 => xup_c (by omega)) (Int.le_of_eq (ups_ne (by omega)).symm) (Int.le_of_eq (ups_ne (by omega)).symm)⟩
  rw [ups_ne (by omega)] at hc
  by_cases q : i = l
  · subst q; rw [xup_k (by omega), xup_same, ups_same]; exact Or.inl ⟨hb, rfl, h0⟩
  · rw [xup_c (by omega), xup_c (by omega), ups_ne (by omega)]; exact h.2.2.1 i hi hc
theorem R.lun_back {M : xM} {w : Nat → Int} (h : R M w) {l : Nat} {v : Int} (hl : l < 20) (hb : M (134 + l) 6 = 1) : R (xup M (134 + l) 3 v) w := by
  obtain ⟨j3, j6, j5⟩ := jcL_n l hl
  refine ⟨h.1.cls (by omega), h.2.1.fr (fun c k q => xup_c (fun z => by subst z; simp [tcT] at q; omega)) (fun _ _ => rfl), fun i hi hc => ?_, h.2.2.2.fr (fun t q => xup_c (by omega)) (fun i q q2 => ⟨xup_ne (by omega), xup_ne (by omega)⟩) (fun i q q2 => xup_c (by omega)) (Int.le_refl _) (Int.le_refl _)⟩
  have k := h.2.2.1 i hi hc
  by_cases q : i = l
  · subst q; rw [xup_k (by omega)]
    rcases k with k | k
    · rw [hb] at k; exact absurd k.1 (by decide)
    · exact Or.inr k
  · rw [xup_c (by omega), xup_c (by omega)]; exact k
/-- moves and pages -/
theorem frc_mov : ∀ a : Nat, a < 10 → ∀ k : Nat, k < 44 → frc (15 + 4 * a) k = true := by decide +kernel
theorem frc_pg : frc 3 17 = true ∧ ∀ e : Nat, e < 10 → frc (155 + 4 * e) 9 = true := by decide +kernel
