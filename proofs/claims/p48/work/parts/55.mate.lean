def ab (d : Int) : Int := if 0 ≤ d then d else -d
def sFit (w : Nat → Int) (i j : Nat) : Bool := decide (w (570 + j) = 0) && (decide (w (210 + j) = w (250 + i)) && (decide (w (250 + j) = w (210 + i)) && (decide (w (290 + j) ≠ w (290 + i)) && (decide (w (330 + j) = w (330 + i)) && (decide (w (370 + j) = w (370 + i)) && decide (w (450 + j) = w (450 + i)))))))
def sMt (w : Nat → Int) (i : Nat) (am : Int) : Nat → Nat → Int → Int → Int
  | 0, _, p, _ => p
  | k + 1, j, p, l => if sFit w i j && decide (ab (w (410 + j) - am) < l) then sMt w i am k (j + 1) (j : Int) (ab (w (410 + j) - am)) else sMt w i am k (j + 1) p l
theorem c_fits {M : xM} {w : Nat → Int} (hR : R M w) {i j : Nat} (hi : i < 40) (hj : j < 40) {am : Int} (h1 : 0 ≤ w (410 + j) ∧ w (410 + j) ≤ 100000000) (h2 : 0 ≤ am ∧ am ≤ 100000000) : fX5_fits (61 + j) (61 + i) am M = some (.inl (bi (sFit w i j && decide (ab (w (410 + j) - am) ≤ 2))), M) := by
  have e1 : w32 (w (410 + j) - am) = w (410 + j) - am := w32_i (by omega) (by omega)
  have e2 : w32 (if 0 ≤ w (410 + j) - am then w (410 + j) - am else -(w (410 + j) - am)) = ab (w (410 + j) - am) := by
    unfold ab; split
    · exact w32_i (by omega) (by omega)
    · exact w32_i (by omega) (by omega)
  unfold fX5_fits sFit
  rw [hR.ist hj, hR.iacc hj, hR.ioth hj, hR.idel hj, hR.isec hj, hR.iun hj, hR.iam hj, hR.idate hj, hR.iacc hi, hR.ioth hi, hR.idel hi, hR.isec hi, hR.iun hi, hR.idate hi, e1, e2]
  by_cases a0 : w (570 + j) = 0
  · rw [if_pos a0, decide_eq_true a0]
    by_cases a1 : w (210 + j) = w (250 + i)
    · rw [if_pos a1, decide_eq_true a1]
      by_cases a2 : w (250 + j) = w (210 + i)
      · rw [if_pos a2, decide_eq_true a2]
        by_cases a3 : w (290 + j) = w (290 + i)
        · rw [if_pos a3, decide_eq_false (not_not_intro a3)]; rfl
        · rw [if_neg a3, decide_eq_true a3]
          by_cases a4 : w (330 + j) = w (330 + i)
          · rw [if_pos a4, decide_eq_true a4]
            by_cases a5 : w (370 + j) = w (370 + i)
            · rw [if_pos a5, decide_eq_true a5]
              by_cases a6 : w (450 + j) = w (450 + i)
              · rw [if_pos a6, decide_eq_true a6]
                by_cases a7 : 2 < ab (w (410 + j) - am)
                · rw [if_pos a7, decide_eq_false (by omega)]; rfl
                · rw [if_neg a7, decide_eq_true (by omega)]; rfl
              · rw [if_neg a6, decide_eq_false a6]; rfl
            · rw [if_neg a5, decide_eq_false a5]; rfl
          · rw [if_neg a4, decide_eq_false a4]; rfl
      · rw [if_neg a2, decide_eq_false a2]; rfl
    · rw [if_neg a1, decide_eq_false a1]; rfl
  · rw [if_neg a0, decide_eq_false a0]; rfl
theorem c_pf_l {M : xM} {w : Nat → Int} (hR : R M w) {i : Nat} (hi : i < 40) {am : Int} (h2 : 0 ≤ am ∧ am ≤ 100000000) (h0 : 0 ≤ w 1542) (h1 : w 1542 ≤ 40) (hA : ∀ j : Nat, j < 40 → (j : Int) < w 1542 → 0 ≤ w (410 + j) ∧ w (410 + j) ≤ 100000000) : ∀ (k j n : Nat) (p l : Int), j + k = (w 1542).toNat → k < n → l ≤ 3 → fX1_partnerFor_8 3 (61 + i) am n p l (j : Int) M = some (.inl (sMt w i am k j p l), M)
  | _, _, 0, _, _, _, hn, _ => absurd hn (Nat.not_lt_zero _)
  | 0, j, n + 1, p, l, hj, _, _ => by
    rw [fX1_partnerFor_8, if_pos (by rw [hR.nI]; omega)]; rfl
  | k + 1, j, n + 1, p, l, hj, hn, hl => by
    have ha := hA j (by omega) (by omega)
    have e1 : w32 (w (410 + j) - am) = w (410 + j) - am := w32_i (by omega) (by omega)
    have e2 : w32 (if 0 ≤ w (410 + j) - am then w (410 + j) - am else -(w (410 + j) - am)) = ab (w (410 + j) - am) := by
      unfold ab; split
      · exact w32_i (by omega) (by omega)
      · exact w32_i (by omega) (by omega)
    rw [fX1_partnerFor_8, if_neg (by rw [hR.nI]; omega), c_ins (by omega), xb_l, Int.toNat_natCast, xlet_b, hR.iam (by omega), e1, e2, c_fits hR hi (by omega) ha h2, xb_l, if_b0]
    unfold fX1_partnerFor_61
    rw [w32_s (by omega), c_pf_l hR hi h2 h0 h1 hA k (j + 1) n p l (by omega) (by omega) hl, sMt]
    cases sFit w i j
    · rfl
    · rw [Bool.true_and, Bool.true_and]
      by_cases z : l ≤ ab (w (410 + j) - am)
      · rw [decide_eq_false (show ¬ ab (w (410 + j) - am) < l by omega), if_pos z, ite_self, if_f]
      · rw [decide_eq_true (show ab (w (410 + j) - am) < l by omega), decide_eq_true (show ab (w (410 + j) - am) ≤ 2 by omega), if_t, if_neg z, if_t, c_pf_l hR hi h2 h0 h1 hA k (j + 1) n _ _ (by omega) (by omega) (by omega)]
theorem c_pf {M : xM} {w : Nat → Int} (hR : R M w) {i : Nat} (hi : i < 40) {am : Int} (h2 : 0 ≤ am ∧ am ≤ 100000000) (h0 : 0 ≤ w 1542) (h1 : w 1542 ≤ 40) (hA : ∀ j : Nat, j < 40 → (j : Int) < w 1542 → 0 ≤ w (410 + j) ∧ w (410 + j) ≤ 100000000) : fX1_partnerFor 3 (61 + i) am M = some (.inl (sMt w i am (w 1542).toNat 0 (-1) 3), M) := by
  unfold fX1_partnerFor
  exact c_pf_l hR hi h2 h0 h1 hA _ 0 xN (-1) 3 (by omega) (by unfold xN; omega) (by omega)
theorem m_mate_l {M : xM} {i : Nat} (hi : i < 40) (h2 : 0 ≤ M 401 (410 + i) ∧ M 401 (410 + i) ≤ 100000000) (h0 : 0 ≤ M 401 1542) (h1 : M 401 1542 ≤ 40) (hA : ∀ j : Nat, j < 40 → (j : Int) < M 401 1542 → 0 ≤ M 401 (410 + j) ∧ M 401 (410 + j) ≤ 100000000) (hne : (i : Int) < M 401 1542 → M 401 (210 + i) ≠ M 401 (250 + i)) : ∀ (k j n : Nat) (p l : Int), j + k = (M 401 1542).toNat → k < n → fX12_mate_9 400 (i : Int) n p l (j : Int) M = some (.inl (sMt (M 401) i (M 401 (410 + i)) k j p l), M)
  | _, _, 0, _, _, _, hn => absurd hn (Nat.not_lt_zero _)
  | 0, j, n + 1, p, l, hj, _ => by
    rw [fX12_mate_9, xr_400_0, if_pos (by omega)]; rfl
  | k + 1, j, n + 1, p, l, hj, hn => by
    have ha := hA j (by omega) (by omega)
    have ih := fun p l => m_mate_l hi h2 h0 h1 hA hne k (j + 1) n p l (by omega) (by omega)
    have e1 : w64 (M 401 (410 + j) - M 401 (410 + i)) = M 401 (410 + j) - M 401 (410 + i) := w64_i (by omega) (by omega)
    have e2 : w64 (M 401 (410 + i) - M 401 (410 + j)) = M 401 (410 + i) - M 401 (410 + j) := w64_i (by omega) (by omega)
    have k260 : ∀ p1 p2 : Bool, fX12_mate_260 (fX12_mate_9 400 (i : Int) n) 400 (i : Int) p l (j : Int) (bi p1) (bi p2) (ab (M 401 (410 + j) - M 401 (410 + i))) M = if (decide ((j : Int) ≠ (i : Int)) && (decide (M 401 (570 + j) = 0) && (p1 && p2))) && decide (ab (M 401 (410 + j) - M 401 (410 + i)) < l) then some (.inl (sMt (M 401) i (M 401 (410 + i)) k (j + 1) (j : Int) (ab (M 401 (410 + j) - M 401 (410 + i)))), M) else some (.inl (sMt (M 401) i (M 401 (410 + i)) k (j + 1) p l), M) := fun p1 p2 => by
      unfold fX12_mate_260 fX12_mate_307
      rw [w32_s (by omega), ih, ih, if_b0, if_b0]
      simp (disch := omega) only [w32_i, xix_t, xr_400_0, tn_add, Int.toNat_natCast, Int.reduceToNat]
      by_cases a : (j : Int) = (i : Int)
      · rw [if_pos a, decide_eq_false (not_not_intro a)]; rfl
      · rw [if_neg a, decide_eq_true a]
        by_cases b : M 401 (570 + j) = 0
        · rw [if_pos b, decide_eq_true b]
          cases p1
          · rfl
          · cases p2
            · rfl
            · rw [if_t, if_t]
              by_cases d : l ≤ ab (M 401 (410 + j) - M 401 (410 + i))
              · rw [if_pos d, decide_eq_false (by omega)]; rfl
              · rw [if_neg d, decide_eq_true (by omega)]; rfl
        · rw [if_neg b, decide_eq_false b]; rfl
    have k186 : ∀ p1 p2 : Bool, fX12_mate_186 (fX12_mate_9 400 (i : Int) n) 400 (i : Int) p l (j : Int) (bi p1) (bi p2) M = if (decide ((j : Int) ≠ (i : Int)) && (decide (M 401 (570 + j) = 0) && (p1 && p2))) && decide (ab (M 401 (410 + j) - M 401 (410 + i)) < l) then some (.inl (sMt (M 401) i (M 401 (410 + i)) k (j + 1) (j : Int) (ab (M 401 (410 + j) - M 401 (410 + i)))), M) else some (.inl (sMt (M 401) i (M 401 (410 + i)) k (j + 1) p l), M) := fun p1 p2 => by
      unfold fX12_mate_186
      simp (disch := omega) only [w32_i, xix_t, xr_400_0, tn_add, Int.toNat_natCast, Int.reduceToNat]
      rw [e1, e2]
      by_cases a : M 401 (410 + i) ≤ M 401 (410 + j)
      · rw [if_pos a, ← k260 p1 p2, show ab (M 401 (410 + j) - M 401 (410 + i)) = M 401 (410 + j) - M 401 (410 + i) from if_pos (by omega)]
      · rw [if_neg a, ← k260 p1 p2, show ab (M 401 (410 + j) - M 401 (410 + i)) = M 401 (410 + i) - M 401 (410 + j) from by unfold ab; rw [if_neg (by omega)]; omega]
    have k104 : ∀ p1 : Bool, fX12_mate_104 (fX12_mate_9 400 (i : Int) n) 400 (i : Int) p l (j : Int) (bi p1) M = if (decide ((j : Int) ≠ (i : Int)) && (decide (M 401 (570 + j) = 0) && (p1 && (decide (M 401 (330 + j) = M 401 (330 + i)) && (decide (M 401 (370 + j) = M 401 (370 + i)) && decide (M 401 (450 + j) = M 401 (450 + i))))))) && decide (ab (M 401 (410 + j) - M 401 (410 + i)) < l) then some (.inl (sMt (M 401) i (M 401 (410 + i)) k (j + 1) (j : Int) (ab (M 401 (410 + j) - M 401 (410 + i)))), M) else some (.inl (sMt (M 401) i (M 401 (410 + i)) k (j + 1) p l), M) := fun p1 => by
      unfold fX12_mate_104 fX12_mate_185
      rw [show fX12_mate_186 (fX12_mate_9 400 (i : Int) n) 400 (i : Int) p l (j : Int) (bi p1) 0 M = _ from k186 p1 false, show fX12_mate_186 (fX12_mate_9 400 (i : Int) n) 400 (i : Int) p l (j : Int) (bi p1) 1 M = _ from k186 p1 true]
      simp (disch := omega) only [w32_i, xix_t, xr_400_0, tn_add, Int.toNat_natCast, Int.reduceToNat]
      by_cases a4 : M 401 (330 + j) = M 401 (330 + i)
      · rw [if_pos a4, decide_eq_true a4]
        by_cases a5 : M 401 (370 + j) = M 401 (370 + i)
        · rw [if_pos a5, decide_eq_true a5]
          by_cases a6 : M 401 (450 + j) = M 401 (450 + i)
          · rw [if_pos a6, decide_eq_true a6]; rfl
          · rw [if_neg a6, decide_eq_false a6]; rfl
        · rw [if_neg a5, decide_eq_false a5]; rfl
      · rw [if_neg a4, decide_eq_false a4]; rfl
    rw [fX12_mate_9, xr_400_0, if_neg (by omega)]
    unfold fX12_mate_103
    rw [show fX12_mate_104 (fX12_mate_9 400 (i : Int) n) 400 (i : Int) p l (j : Int) 0 M = _ from k104 false, show fX12_mate_104 (fX12_mate_9 400 (i : Int) n) 400 (i : Int) p l (j : Int) 1 M = _ from k104 true]
    simp (disch := omega) only [w32_i, xix_t, xr_400_0, tn_add, Int.toNat_natCast, Int.reduceToNat]
    rw [sMt]
    unfold sFit
    have hji : M 401 (210 + j) = M 401 (250 + i) → (j : Int) ≠ (i : Int) := fun z y => by
      have : j = i := by omega
      subst this; exact hne (by omega) z
    by_cases a1 : M 401 (210 + j) = M 401 (250 + i)
    · rw [if_pos a1, decide_eq_true a1, decide_eq_true (hji a1)]
      by_cases a2 : M 401 (250 + j) = M 401 (210 + i)
      · rw [if_pos a2, decide_eq_true a2]
        by_cases a3 : M 401 (290 + j) = M 401 (290 + i)
        · rw [if_pos a3, decide_eq_false (not_not_intro a3)]
          simp only [Bool.false_and, Bool.and_false, if_f]
        · rw [if_neg a3, decide_eq_true a3]
          simp only [Bool.true_and]
          split <;> rfl
      · rw [if_neg a2, decide_eq_false a2]
        simp only [Bool.false_and, Bool.and_false, if_f]
    · rw [if_neg a1, decide_eq_false a1]
      simp only [Bool.false_and, Bool.and_false, if_f]
theorem m_mate {M : xM} {i : Nat} (hi : i < 40) (h2 : 0 ≤ M 401 (410 + i) ∧ M 401 (410 + i) ≤ 100000000) (h0 : 0 ≤ M 401 1542) (h1 : M 401 1542 ≤ 40) (hA : ∀ j : Nat, j < 40 → (j : Int) < M 401 1542 → 0 ≤ M 401 (410 + j) ∧ M 401 (410 + j) ≤ 100000000) (hne : (i : Int) < M 401 1542 → M 401 (210 + i) ≠ M 401 (250 + i)) : fX12_mate 400 (i : Int) M = some (.inl (sMt (M 401) i (M 401 (410 + i)) (M 401 1542).toNat 0 (-1) 3), M) := by
  unfold fX12_mate
  exact m_mate_l hi h2 h0 h1 hA hne _ 0 xN (-1) 3 (by omega) (by unfold xN; omega)
theorem sMt_fit {w : Nat → Int} {i : Nat} {am : Int} : ∀ (k j : Nat) (p l : Int), (p = -1 ∨ ∃ x : Nat, p = (x : Int) ∧ x < j ∧ sFit w i x = true) → sMt w i am k j p l = -1 ∨ ∃ x : Nat, sMt w i am k j p l = (x : Int) ∧ x < j + k ∧ sFit w i x = true
  | 0, j, p, l, h => h
  | k + 1, j, p, l, h => by
    unfold sMt
    cases q : sFit w i j && decide (ab (w (410 + j) - am) < l)
    · rw [if_f]
      rcases sMt_fit k (j + 1) p l (by rcases h with h | ⟨x, h1, h2, h3⟩; exact Or.inl h; exact Or.inr ⟨x, h1, by omega, h3⟩) with g | ⟨x, g1, g2, g3⟩
      · exact Or.inl g
      · exact Or.inr ⟨x, g1, by omega, g3⟩
    · rw [if_t]
      rcases sMt_fit k (j + 1) (j : Int) (ab (w (410 + j) - am)) (Or.inr ⟨j, rfl, by omega, (and_tt q).1⟩) with g | ⟨x, g1, g2, g3⟩
      · exact Or.inl g
      · exact Or.inr ⟨x, g1, by omega, g3⟩
