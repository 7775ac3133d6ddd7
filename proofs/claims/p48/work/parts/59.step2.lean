theorem sFit_e {w : Nat → Int} {i k : Nat} (h : sFit w i k = true) : w (570 + k) = 0 ∧ w (210 + k) = w (250 + i) ∧ w (250 + k) = w (210 + i) ∧ w (290 + k) ≠ w (290 + i) ∧ w (330 + k) = w (330 + i) ∧ w (370 + k) = w (370 + i) ∧ w (450 + k) = w (450 + i) := by
  unfold sFit at h
  obtain ⟨h0, h⟩ := and_tt h
  obtain ⟨h1, h⟩ := and_tt h
  obtain ⟨h2, h⟩ := and_tt h
  obtain ⟨h3, h⟩ := and_tt h
  obtain ⟨h4, h⟩ := and_tt h
  obtain ⟨h5, h6⟩ := and_tt h
  exact ⟨of_decide_eq_true h0, of_decide_eq_true h1, of_decide_eq_true h2, of_decide_eq_true h3, of_decide_eq_true h4, of_decide_eq_true h5, of_decide_eq_true h6⟩
theorem wMa_far {w : Nat → Int} {i k t : Nat} (ht : t < 20) (hi : i < 40) (hk : k < 40) (hik : i ≠ k) (h5 : w (850 + t) = 0) (h7 : w (870 + t) = 0) {j : Nat} (hj : j < 570 ∨ (610 ≤ j ∧ j < 650) ∨ (690 ≤ j ∧ j < 730) ∨ (890 ≤ j ∧ j ≠ 1543)) : wMa w i k t j = w j := by
  unfold wMa
  by_cases z : w (290 + i) = 0
  · rw [if_pos z, if_pos z, ← wMm_eq ht hi hk hik h5 h7 (Or.inl ⟨rfl, rfl⟩)]
    exact wMm_nf ht hi hk _ _ _ _ _ _ j hj
  · rw [if_neg z, if_neg z, ← wMm_eq ht hi hk hik h5 h7 (Or.inr ⟨rfl, rfl⟩)]
    exact wMm_nf ht hi hk _ _ _ _ _ _ j hj
/-- two that fit become a trade: class, model and invariants at once -/
theorem match_step {M : xM} {w T : Nat → Int} (hR : R M w) (hV : MV M w) (hT : told M T) (h : Inv0 w) {i k t : Nat} (hil : (i : Int) < w 1542) (hkl : (k : Int) < w 1542) (si : w (570 + i) = 0) (hf : sFit w i k = true) (hw : w 1543 = (t : Int)) (ht : t < 20) : ∃ M', fX1_match 3 (i : Int) (k : Int) M = some (.inl (t : Int), M') ∧ R M' (wMa w i k t) ∧ MV M' (wMa w i k t) ∧ told M' (sTb (wMa w i k t) T t) ∧ ofM M M' ∧ Inv0 (wMa w i k t) ∧ (∀ (M2 : xM) (x : Int), fX12_matched 400 (i : Int) (k : Int) (st M2 w T x) = some (.inl (t : Int), st M2 (wMa w i k t) (sTb (wMa w i k t) T t) x)) ∧ ∀ j, (j < 570 ∨ (610 ≤ j ∧ j < 650) ∨ (690 ≤ j ∧ j < 730) ∨ (890 ≤ j ∧ j ≠ 1543)) → wMa w i k t j = w j := by
  obtain ⟨e0, e1, e2, e3, e4, e5, e6⟩ := sFit_e hf
  obtain ⟨hC, hA, hS, hH, hI, hTt, hK, hL, hE⟩ := id h
  have c1 := hC.1
  have c2 := hC.2.1
  have c3 := hC.2.2.1
  have hi : i < 40 := by omega
  have hk : k < 40 := by omega
  have u7 := ((hTt t ht).2 (by omega)).2
  have u5 := ((hTt t ht).2 (by omega)).1
  obtain ⟨i1, i2, i3, i4, -, -, -, -, -, -, -, -, i13, -⟩ := (hI i hi).1 hil
  obtain ⟨k1, -⟩ := (hI k hk).1 hkl
  have hik : i ≠ k := fun z => i3 (by rw [z] at e1 ⊢; exact e1)
  have hacc : w (210 + i) ≠ w (210 + k) := by rw [e1]; exact i3
  obtain ⟨a, ha⟩ := ex_nat i1.1
  obtain ⟨b, hb⟩ := ex_nat k1.1
  obtain ⟨s, hs⟩ := ex_nat i4.1
  obtain ⟨M', m1, m2, m3, m4, m5⟩ := c_match hR hT hi hk hil hkl ht hw u7 ⟨a, b, ha, hb, by omega, by omega, fun z => hacc (by rw [ha, hb, z])⟩ ⟨s, by omega, hs, by rw [e4]; exact hs⟩ e6
  have far := fun j hj => wMa_far (w := w) (j := j) ht hi hk hik u5 u7 hj
  refine ⟨M', m1, m2, hV.fr (m4 3 17 (by omega) (by omega) (by omega)) (fun x hx => by funext y; exact m4 _ y (by omega) (by omega) (by omega)) (fun e he => m4 _ 9 (by omega) (by omega) (by omega)) (fun j _ _ => far j (by omega)) (fun e _ => far _ (by omega)) (fun e _ _ => far _ (by omega)) (fun j _ _ => far j (by omega)), m3, m4, h.match hil hkl hik ht hw si e0 hacc, fun M2 x => m_matched ht hi hk hik hw u5 u7 i13 m5, far⟩
theorem ofM.fr {M M' : xM} (h : ofM M M') : ∀ c : Nat, (c = 0 ∨ (199 ≤ c ∧ c < 395) ∨ 400 ≤ c) → M' c = M c := fun c hc => by
  funext k; exact h c k (by omega) (by omega) (by omega)
/-- the own amount doesn't matter -/
theorem sFit_am {w : Nat → Int} {i j : Nat} (hi : i < 40) (hj : j < 40) (am : Int) : sFit (ups w (410 + i) am) i j = sFit w i j := by
  unfold sFit; simp (disch := omega) only [ups_ne]
theorem sMt_am {w : Nat → Int} {i : Nat} (hi : i < 40) (hne : w (210 + i) ≠ w (250 + i)) (am : Int) : ∀ (k j : Nat) (p l : Int), j + k ≤ 40 → sMt (ups w (410 + i) am) i am k j p l = sMt w i am k j p l
  | 0, _, _, _, _ => rfl
  | k + 1, j, p, l, hj => by
    unfold sMt
    rw [sFit_am hi (by omega), sMt_am hi hne am k (j + 1) p l (by omega)]
    by_cases z : j = i
    · subst z
      have : sFit w j j = false := by
        unfold sFit; rw [decide_eq_false hne]; cases decide (w (570 + j) = 0) <;> rfl
      rw [this]; rfl
    · rw [ups_ne (by omega), sMt_am hi hne am k (j + 1) _ _ (by omega)]
theorem Inv0.iam {w : Nat → Int} (h : Inv0 w) {i : Nat} {am : Int} (hi : i < 40) (ha : 0 ≤ am ∧ am ≤ 100000000) : Inv0 (ups w (410 + i) am) := by
  obtain ⟨hC, hA, hS, hH, hI, hT, hK, hL, hE⟩ := h
  have c := hC.2.2.2.1
  refine ⟨hC.fr (fun j _ _ => ups_ne (by omega)), hA.fr hC (fun j _ => ups_ne (by omega)), hS.fr (fun j _ => ups_ne (by omega)), hH.fr (fun j _ => ups_ne (by omega)), ?_, hT.fr hC (fun j _ => ups_ne (by omega)), hK.fr (fun j _ => ups_ne (by omega)), hL.fr (fun j _ => ups_ne (by omega)), hE.fr (fun j _ => ups_ne (by omega))⟩
  intro x hx
  have kx := hI x hx
  refine ⟨fun hl => ?_, fun hl => ?_⟩
  · rw [ups_ne (by omega)] at hl
    have k := kx.1 hl
    have b : (w (650 + x)).toNat < 20 := by have := k.2.2.2.2.2.2.2.2.2.2.1; omega
    clear hI kx
    obtain ⟨k1, k2, k3, k4, k5, k6, k7⟩ := k
    have h6 : 0 ≤ ups w (410 + i) am (410 + x) ∧ ups w (410 + i) am (410 + x) ≤ 100000000 := by
      unfold ups; split
      · exact ha
      · exact k6
    simp only [di, ri] at k7 ⊢
    refine ⟨?_, ?_, ?_, ?_, ?_, h6, ?_⟩
    all_goals clear h6 k6
    all_goals simp (disch := omega) only [ups_ne]
    all_goals assumption
  · rw [ups_ne (by omega)] at hl
    simp (disch := omega) only [ups_ne]; exact kx.2 hl
