def wMm (w : Nat → Int) (t i k : Nat) (D Rc u am p l : Int) : Nat → Int := ups (ups (ups (ups (ups (ups (ups (ups (ups (ups (ups (ups (ups w (730 + t) D) (750 + t) Rc) (770 + t) u) (790 + t) am) (810 + t) p) (830 + t) l) (850 + t) 0) (870 + t) 0) (570 + i) 1) (570 + k) 1) (650 + i) (t : Int)) (650 + k) (t : Int)) 1543 ((t : Int) + 1)
theorem wMm_eq {w : Nat → Int} {t i k d r : Nat} (ht : t < 20) (hi : i < 40) (hk : k < 40) (hik : i ≠ k) (h5 : w (850 + t) = 0) (h7 : w (870 + t) = 0) (hdr : (d = k ∧ r = i) ∨ (d = i ∧ r = k)) (u am p l : Int) : wMm w t i k (d : Int) (r : Int) u am p l = wPs (wMb w t i k (d : Int) (r : Int) u am p l) t 1 := by
  have ed : di (wMb w t i k (d : Int) (r : Int) u am p l) t = d := by
    unfold di wMb; simp (disch := omega) only [ups_ne, ups_same]; exact Int.toNat_natCast d
  have er : ri (wMb w t i k (d : Int) (r : Int) u am p l) t = r := by
    unfold ri wMb; simp (disch := omega) only [ups_ne, ups_same]; exact Int.toNat_natCast r
  funext j
  unfold wPs
  rw [ed, er]
  unfold wMb wMm
  have hs : ups (ups (ups (ups (ups (ups (ups (ups (ups (ups (ups (ups w (730 + t) (d : Int)) (750 + t) (r : Int)) (770 + t) u) (790 + t) am) (810 + t) p) (830 + t) l) 1543 ((t : Int) + 1)) (650 + i) (t : Int)) (650 + k) (t : Int)) (870 + t) (1 - 1)) (570 + d) 1) (570 + r) 1 j = ups (ups (ups (ups (ups (ups (ups (ups (ups (ups (ups (ups w (730 + t) (d : Int)) (750 + t) (r : Int)) (770 + t) u) (790 + t) am) (810 + t) p) (830 + t) l) 1543 ((t : Int) + 1)) (650 + i) (t : Int)) (650 + k) (t : Int)) (870 + t) (1 - 1)) (570 + i) 1) (570 + k) 1 j := by
    rcases hdr with ⟨rfl, rfl⟩ | ⟨rfl, rfl⟩
    · rw [ups_comm (i := 570 + d) (by omega)]
    · rfl
  rw [hs]
  by_cases q1 : j = 1543
  · subst q1; simp (disch := omega) only [ups_ne, ups_same]
  · by_cases q2 : j = 650 + k
    · subst q2; simp (disch := omega) only [ups_ne, ups_same]
    · by_cases q3 : j = 650 + i
      · subst q3; simp (disch := omega) only [ups_ne, ups_same]
      · by_cases q4 : j = 570 + k
        · subst q4; simp (disch := omega) only [ups_ne, ups_same]
        · by_cases q5 : j = 570 + i
          · subst q5; simp (disch := omega) only [ups_ne, ups_same]
          · by_cases q6 : j = 870 + t
            · subst q6; simp (disch := omega) only [ups_ne, ups_same]; omega
            · by_cases q7 : j = 850 + t
              · subst q7; simp (disch := omega) only [ups_ne, ups_same]; exact h5.symm
              · rw [ups_ne q1, ups_ne q2, ups_ne q3, ups_ne q4, ups_ne q5, ups_ne q6, ups_ne q7, ups_ne q4, ups_ne q5, ups_ne q6, ups_ne q2, ups_ne q3, ups_ne q1]
theorem m_matched {M : xM} {w T : Nat → Int} {h : Int} {i k t : Nat} (ht : t < 20) (hi : i < 40) (hk : k < 40) (hik : i ≠ k) (hw : w 1543 = (t : Int)) (h5 : w (850 + t) = 0) (h7 : w (870 + t) = 0) (hb : B01 (w (290 + i))) (hTF : TF (wMa w i k t) t) : fX12_matched 400 (i : Int) (k : Int) (st M w T h) = some (.inl (t : Int), st M (wMa w i k t) (sTb (wMa w i k t) T t) h) := by
  have hd : ∃ d r : Nat, (if w (290 + i) = 0 then (k : Int) else (i : Int)) = (d : Int) ∧ (if w (290 + i) = 0 then (i : Int) else (k : Int)) = (r : Int) ∧ ((d = k ∧ r = i) ∨ (d = i ∧ r = k)) ∧ (if w (290 + i) = 1 then (i : Int) else (k : Int)) = (d : Int) ∧ (if w (290 + i) = 1 then (k : Int) else (i : Int)) = (r : Int) := by
    rcases hb with z | z
    · exact ⟨k, i, by rw [if_pos z], by rw [if_pos z], Or.inl ⟨rfl, rfl⟩, by rw [if_neg (by omega)], by rw [if_neg (by omega)]⟩
    · exact ⟨i, k, by rw [if_neg (by omega)], by rw [if_neg (by omega)], Or.inr ⟨rfl, rfl⟩, by rw [if_pos z], by rw [if_pos z]⟩
  obtain ⟨d, r, d1, r1, hdr, d2, r2⟩ := hd
  unfold wMa at hTF ⊢
  rw [d1, r1] at hTF ⊢
  have k298 : ∀ l am p u : Int, TF (wPs (wMb w t i k (d : Int) (r : Int) u am p l) t 1) t → fX12_matched_298 400 (i : Int) (k : Int) (t : Int) l (w32 (830 + (t : Int))) 401 (st M (ups (ups (ups (ups (ups w (730 + t) (d : Int)) (750 + t) (r : Int)) (770 + t) u) (790 + t) am) (810 + t) p) T h) = some (.inl (t : Int), st M (wPs (wMb w t i k (d : Int) (r : Int) u am p l) t 1) (sTb (wPs (wMb w t i k (d : Int) (r : Int) u am p l) t 1) T t) h) := fun l am p u hf => by
    have e := wMm_eq (w := w) ht hi hk hik h5 h7 hdr u am p l
    unfold fX12_matched_298
    simp (disch := omega) only [w32_i, xix_t, xr_400_0, tn_add, Int.toNat_natCast, Int.reduceToNat, xput_b, st_w, st_401, ups_ne, hw, w64_i]
    rw [show ups (ups (ups (ups (ups (ups (ups (ups (ups (ups (ups (ups (ups w (730 + t) (d : Int)) (750 + t) (r : Int)) (770 + t) u) (790 + t) am) (810 + t) p) (830 + t) l) (850 + t) 0) (870 + t) 0) (570 + i) 1) (570 + k) 1) (650 + i) (t : Int)) (650 + k) (t : Int)) 1543 ((t : Int) + 1) = _ from e, m_tel hf, xb_l]; rfl
  have k207 : ∀ p am u : Int, TF (wPs (wMb w t i k (d : Int) (r : Int) u am p (sLe (w (530 + i)) (w (530 + k)))) t 1) t → fX12_matched_207 400 (i : Int) (k : Int) (t : Int) p (w32 (810 + (t : Int))) 401 (st M (ups (ups (ups (ups w (730 + t) (d : Int)) (750 + t) (r : Int)) (770 + t) u) (790 + t) am) T h) = some (.inl (t : Int), st M (wPs (wMb w t i k (d : Int) (r : Int) u am p (sLe (w (530 + i)) (w (530 + k)))) t 1) (sTb (wPs (wMb w t i k (d : Int) (r : Int) u am p (sLe (w (530 + i)) (w (530 + k)))) t 1) T t) h) := fun p am u hf => by
    have e1 : w32 (810 + (t : Int)) = 810 + (t : Int) := w32_i (by omega) (by omega)
    have e2 : (810 + (t : Int)).toNat = 810 + t := by omega
    unfold fX12_matched_207 fX12_matched_247
    rw [e1, xix_t (by omega) (by omega), e2, xput_b, st_w, xr_400_0, st_401]
    have g1 : ∀ x : Nat, x < 40 → (w32 (530 + (x : Int))).toNat = 530 + x := fun x hx => by rw [w32_i (by omega) (by omega)]; omega
    have g2 : ∀ x : Nat, x < 40 → ∀ F, xix (w32 (530 + (x : Int))) 1550 F = F := fun x hx F => by rw [w32_i (by omega) (by omega)]; exact xix_t (by omega) (by omega)
    rw [g1 i hi, g1 k hk]
    simp only [g2 i hi, g2 k hk]
    have g3 : ∀ x : Nat, x < 40 → ups (ups (ups (ups (ups w (730 + t) (d : Int)) (750 + t) (r : Int)) (770 + t) u) (790 + t) am) (810 + t) p (530 + x) = w (530 + x) := fun x hx => by simp (disch := omega) only [ups_ne]
    rw [g3 i hi, g3 k hk]
    unfold sLe at hf ⊢
    by_cases a1 : w (530 + i) = 0
    · rw [if_pos a1] at hf ⊢
      rw [if_pos a1]; exact k298 0 am p u hf
    · rw [if_neg a1] at hf ⊢
      rw [if_neg a1]
      by_cases a2 : w (530 + k) = 0
      · rw [if_pos a2] at hf ⊢
        rw [if_pos a2]; exact k298 0 am p u hf
      · rw [if_neg a2] at hf ⊢
        rw [if_neg a2]
        by_cases a3 : w (530 + i) ≤ w (530 + k)
        · rw [if_pos a3]
          rw [Int.max_eq_right a3] at hf ⊢; exact k298 _ am p u hf
        · rw [if_neg a3]
          rw [Int.max_eq_left (by omega)] at hf ⊢; exact k298 _ am p u hf
  have e41 : fX12_matched 400 (i : Int) (k : Int) (st M w T h) = fX12_matched_73 400 (i : Int) (k : Int) (t : Int) (r : Int) (w32 (750 + (t : Int))) 401 (st M (ups w (730 + t) (d : Int)) T h) := by
    unfold fX12_matched fX12_matched_41
    rw [xr_400_0, st_401, hw, xlet_b]
    simp (disch := omega) only [w32_i, xix_t, tn_add, Int.toNat_natCast, Int.reduceToNat, xput_b, st_w, st_401, ups_ne]
    by_cases z : w (290 + i) = 1
    · rw [if_pos z] at d2 r2
      simp only [if_pos z, d2, r2]
    · rw [if_neg z] at d2 r2
      simp only [if_neg z, d2, r2]
  rw [e41]
  unfold fX12_matched_73 fX12_matched_150
  have ew : ∀ lo x : Nat, lo + x < 690 → ups (ups (ups (ups w (730 + t) (d : Int)) (750 + t) (r : Int)) (770 + t) (w (370 + i))) (790 + t) (min (w (410 + i)) (w (410 + k))) (lo + x) = w (lo + x) := fun lo x hx => by simp (disch := omega) only [ups_ne]
  simp (disch := omega) only [w32_i, xix_t, xr_400_0, tn_add, Int.toNat_natCast, Int.reduceToNat, xput_b, st_w, st_401, ups_ne]
  have k2 := k207 (max (w (490 + i)) (w (490 + k))) (min (w (410 + i)) (w (410 + k))) (w (370 + i)) hTF
  rw [w32_i (by omega) (by omega)] at k2
  by_cases a1 : w (410 + k) ≤ w (410 + i)
  · rw [if_pos a1]
    rw [Int.min_eq_right a1] at k2 ⊢
    by_cases a2 : w (490 + i) ≤ w (490 + k)
    · rw [if_pos a2]
      rw [Int.max_eq_right a2] at k2 ⊢; exact k2
    · rw [if_neg a2]
      rw [Int.max_eq_left (by omega)] at k2 ⊢; exact k2
  · rw [if_neg a1]
    rw [Int.min_eq_left (by omega)] at k2 ⊢
    by_cases a2 : w (490 + i) ≤ w (490 + k)
    · rw [if_pos a2]
      rw [Int.max_eq_right a2] at k2 ⊢; exact k2
    · rw [if_neg a2]
      rw [Int.max_eq_left (by omega)] at k2 ⊢; exact k2
