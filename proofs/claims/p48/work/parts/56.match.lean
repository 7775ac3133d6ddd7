def sLe (a b : Int) : Int := if a = 0 then 0 else if b = 0 then 0 else max a b
def mMa (M : xM) (t i k : Nat) (D Rc a b s u am dt p l : Int) : xM := xup (xup (xup (xup (xup (xup (xup (xup (xup (xup (xup (xup (xup M (102 + t) 1 D) (102 + t) 2 Rc) (102 + t) 3 a) (102 + t) 4 b) (102 + t) 5 s) (102 + t) 6 u) (102 + t) 7 am) (102 + t) 9 dt) (102 + t) 10 p) (102 + t) 8 l) 3 12 ((t : Int) + 1)) (61 + i) 10 (t : Int)) (61 + k) 10 (t : Int)
def wMb (w : Nat → Int) (t i k : Nat) (D Rc u am p l : Int) : Nat → Int := ups (ups (ups (ups (ups (ups (ups (ups (ups w (730 + t) D) (750 + t) Rc) (770 + t) u) (790 + t) am) (810 + t) p) (830 + t) l) 1543 ((t : Int) + 1)) (650 + i) (t : Int)) (650 + k) (t : Int)
theorem c_mw {M : xM} {w : Nat → Int} (hR : R M w) {i k t : Nat} (hi : i < 40) (hk : k < 40) (ht : t < 20) (hw : w 1543 = (t : Int)) : fX1_match 3 (i : Int) (k : Int) M = xb (fX1_putStatus 3 (102 + t) 1 (mMa M t i k (if w (290 + i) = 0 then (k : Int) else (i : Int)) (if w (290 + i) = 0 then (i : Int) else (k : Int)) (if w (290 + i) = 0 then w (210 + k) else w (210 + i)) (if w (290 + i) = 0 then w (210 + i) else w (210 + k)) (w (330 + i)) (w (370 + i)) (min (w (410 + i)) (w (410 + k))) (w (450 + i)) (max (w (490 + i)) (w (490 + k))) (sLe (w (530 + i)) (w (530 + k))))) (fun _ M6 => xb (fX1_tellBoth 3 (102 + t) M6) (fun _ M8 => xret (t : Int) M8)) := by
  unfold fX1_match
  rw [c_ins (by omega), xb_l, c_ins (by omega), xb_l, hR.nT, hw, c_trd (by omega), xb_l, Int.toNat_natCast, Int.toNat_natCast, Int.toNat_natCast, hR.idel hi]
  by_cases z : w (290 + i) = 0
  · simp only [if_pos z]
    unfold fX1_match_41
    simp (disch := omega) only [xput_b, xup_c, hR.idel, if_pos z]
    unfold fX1_match_58
    simp (disch := omega) only [xput_b, xup_c, hR.idel, if_pos z]
    unfold fX1_match_82
    simp (disch := omega) only [xput_b, xup_c, hR.idel, if_pos z]
    unfold fX1_match_106
    rw [hR.iacc hk, hR.iacc hi]
    simp (disch := omega) only [xput_b, xup_c]
    rw [hR.isec hi, hR.iun hi, hR.iam hi, hR.iam hk, hR.idate hi, hR.ipri hi, hR.ipri hk, hR.ilea hi, hR.ilea hk]
    unfold fX1_match_187 fX1_match_192
    simp (disch := omega) only [xup_c]
    rw [hR.ilea hi, hR.ilea hk]
    simp only [if_neg (show ¬ (1 : Int) = 0 by decide), if_true]
    have g : ∀ v : Int, ∀ N : xM, fX1_match_218 3 (61 + i) (61 + k) (t : Int) (102 + t) v (102 + t) N = xb (fX1_putStatus 3 (102 + t) 1 (xup (xup (xup (xup N (102 + t) 8 v) 3 12 ((t : Int) + 1)) (61 + i) 10 (t : Int)) (61 + k) 10 (t : Int))) (fun _ M6 => xb (fX1_tellBoth 3 (102 + t) M6) (fun _ M8 => xret (t : Int) M8)) := fun v N => by
      unfold fX1_match_218
      rw [xput_b, xput_b, xput_b, xput_b, w32_i (by omega) (by omega)]
    rw [g, g]
    unfold sLe
    by_cases a1 : w (530 + i) = 0
    · rw [if_pos a1, if_pos a1]; rfl
    · rw [if_neg a1, if_neg a1]
      by_cases a2 : w (530 + k) = 0
      · rw [if_pos a2, if_pos a2]; rfl
      · rw [if_neg a2, if_neg a2]; rfl
  · simp only [if_neg z]
    unfold fX1_match_41
    simp (disch := omega) only [xput_b, xup_c, hR.idel, if_neg z]
    unfold fX1_match_58
    simp (disch := omega) only [xput_b, xup_c, hR.idel, if_neg z]
    unfold fX1_match_82
    simp (disch := omega) only [xput_b, xup_c, hR.idel, if_neg z]
    unfold fX1_match_106
    rw [hR.iacc hi, hR.iacc hk]
    simp (disch := omega) only [xput_b, xup_c]
    rw [hR.isec hi, hR.iun hi, hR.iam hi, hR.iam hk, hR.idate hi, hR.ipri hi, hR.ipri hk, hR.ilea hi, hR.ilea hk]
    unfold fX1_match_187 fX1_match_192
    simp (disch := omega) only [xup_c]
    rw [hR.ilea hi, hR.ilea hk]
    simp only [if_neg (show ¬ (1 : Int) = 0 by decide), if_true]
    have g : ∀ v : Int, ∀ N : xM, fX1_match_218 3 (61 + i) (61 + k) (t : Int) (102 + t) v (102 + t) N = xb (fX1_putStatus 3 (102 + t) 1 (xup (xup (xup (xup N (102 + t) 8 v) 3 12 ((t : Int) + 1)) (61 + i) 10 (t : Int)) (61 + k) 10 (t : Int))) (fun _ M6 => xb (fX1_tellBoth 3 (102 + t) M6) (fun _ M8 => xret (t : Int) M8)) := fun v N => by
      unfold fX1_match_218
      rw [xput_b, xput_b, xput_b, xput_b, w32_i (by omega) (by omega)]
    rw [g, g]
    unfold sLe
    by_cases a1 : w (530 + i) = 0
    · rw [if_pos a1, if_pos a1]; rfl
    · rw [if_neg a1, if_neg a1]
      by_cases a2 : w (530 + k) = 0
      · rw [if_pos a2, if_pos a2]; rfl
      · rw [if_neg a2, if_neg a2]; rfl
/-- two instructions become the trade t -/
def wMa (w : Nat → Int) (i k t : Nat) : Nat → Int := wPs (wMb w t i k (if w (290 + i) = 0 then (k : Int) else (i : Int)) (if w (290 + i) = 0 then (i : Int) else (k : Int)) (w (370 + i)) (min (w (410 + i)) (w (410 + k))) (max (w (490 + i)) (w (490 + k))) (sLe (w (530 + i)) (w (530 + k)))) t 1
def ofM (M M' : xM) : Prop := ∀ c k, c ≠ 2 → ¬ (c = 3 ∧ k = 12) → (c < 61 ∨ 122 ≤ c) → M' c k = M c k
theorem c_match {M : xM} {w T : Nat → Int} (hR : R M w) (hT : told M T) {i k t : Nat} (hi : i < 40) (hk : k < 40) (hil : (i : Int) < w 1542) (hkl : (k : Int) < w 1542) (ht : t < 20) (hw : w 1543 = (t : Int)) (hz : w (870 + t) = 0) (hacc : ∃ a b : Nat, w (210 + i) = (a : Int) ∧ w (210 + k) = (b : Int) ∧ a < 10 ∧ b < 10 ∧ a ≠ b) (hsec : ∃ s : Nat, s < 4 ∧ w (330 + i) = (s : Int) ∧ w (330 + k) = (s : Int)) (hdt : w (450 + k) = w (450 + i)) : ∃ M', fX1_match 3 (i : Int) (k : Int) M = some (.inl (t : Int), M') ∧ R M' (wMa w i k t) ∧ told M' (sTb (wMa w i k t) T t) ∧ ofM M M' ∧ TF (wMa w i k t) t := by
  obtain ⟨a, b, ha, hb, ha10, hb10, hab⟩ := hacc
  obtain ⟨s, hs, hs1, hs2⟩ := hsec
  obtain ⟨d, r, hd, hr, hdr, hdi, hri⟩ : ∃ d r : Nat, (if w (290 + i) = 0 then (k : Int) else (i : Int)) = (d : Int) ∧ (if w (290 + i) = 0 then (i : Int) else (k : Int)) = (r : Int) ∧ ((d = k ∧ r = i) ∨ (d = i ∧ r = k)) ∧ (if w (290 + i) = 0 then w (210 + k) else w (210 + i)) = w (210 + d) ∧ (if w (290 + i) = 0 then w (210 + i) else w (210 + k)) = w (210 + r) := by
    by_cases z : w (290 + i) = 0
    · exact ⟨k, i, by rw [if_pos z], by rw [if_pos z], Or.inl ⟨rfl, rfl⟩, by rw [if_pos z], by rw [if_pos z]⟩
    · exact ⟨i, k, by rw [if_neg z], by rw [if_neg z], Or.inr ⟨rfl, rfl⟩, by rw [if_neg z], by rw [if_neg z]⟩
  have hcm := c_mw hR hi hk ht hw
  unfold wMa
  rw [hd, hr, hdi, hri] at hcm
  rw [hd, hr]
  have hd40 : d < 40 := by omega
  have hr40 : r < 40 := by omega
  generalize hU : w (370 + i) = u at *
  generalize hAm : min (w (410 + i)) (w (410 + k)) = am at *
  generalize hPr : max (w (490 + i)) (w (490 + k)) = p at *
  generalize hLe : sLe (w (530 + i)) (w (530 + k)) = l at *
  have ed : di (wMb w t i k d r u am p l) t = d := by
    unfold di wMb; simp (disch := omega) only [ups_ne, ups_same]; exact Int.toNat_natCast d
  have er : ri (wMb w t i k d r u am p l) t = r := by
    unfold ri wMb; simp (disch := omega) only [ups_ne, ups_same]; exact Int.toNat_natCast r
  have eo : ∀ j, j < 650 → wMb w t i k d r u am p l j = w j := fun j hj => by
    unfold wMb; simp (disch := omega) only [ups_ne]
  have eds : w (330 + d) = (s : Int) ∧ w (450 + d) = w (450 + i) := by
    rcases hdr with ⟨rfl, rfl⟩ | ⟨rfl, rfl⟩
    · exact ⟨hs2, hdt⟩
    · exact ⟨hs1, rfl⟩
  have hRb : R (mMa M t i k d r (w (210 + d)) (w (210 + r)) (w (330 + i)) u am (w (450 + i)) p l) (wMb w t i k d r u am p l) := by
    have x1 := hR.tdel_up (v := (d : Int)) ht (by omega)
    have x2 := x1.trec_up (v := (r : Int)) ht (by rw [ups_ne (by omega)]; omega)
    have n2 : ups (ups w (730 + t) (d : Int)) (750 + t) (r : Int) 1543 ≤ (t : Int) := by rw [ups_ne (by omega), ups_ne (by omega)]; omega
    have x3 := ((x2.tx_up (k := 3) (v := w (210 + d)) ht n2 (by omega)).tx_up (k := 4) (v := w (210 + r)) ht n2 (by omega)).tx_up (k := 5) (v := w (330 + i)) ht n2 (by omega)
    have x4 := (x3.tun_up (v := u) ht).tam_up (v := am) ht
    have x5 := x4.tx_up (k := 9) (v := w (450 + i)) ht (by rw [ups_ne (by omega), ups_ne (by omega)]; exact n2) (by omega)
    have x6 := (x5.tpri_up (v := p) ht).tlea_up (v := l) ht
    have x7 := x6.cntT ht (by simp (disch := omega) only [ups_ne]; exact hw) (by
      have y1 : di (ups (ups (ups (ups (ups (ups w (730 + t) (d : Int)) (750 + t) (r : Int)) (770 + t) u) (790 + t) am) (810 + t) p) (830 + t) l) t = d := by
        unfold di; simp (disch := omega) only [ups_ne, ups_same]; exact Int.toNat_natCast d
      have y2 : ri (ups (ups (ups (ups (ups (ups w (730 + t) (d : Int)) (750 + t) (r : Int)) (770 + t) u) (790 + t) am) (810 + t) p) (830 + t) l) t = r := by
        unfold ri; simp (disch := omega) only [ups_ne, ups_same]; exact Int.toNat_natCast r
      rw [y1, y2]
      refine ⟨hd40, hr40, ?_, ?_, ?_, ?_⟩
      · simp (disch := omega) only [xup_k, xup_same, ups_ne]
      · simp (disch := omega) only [xup_k, xup_same, ups_ne]
      · simp (disch := omega) only [xup_k, xup_same, ups_ne]; rw [hs1, eds.1]
      · simp (disch := omega) only [xup_k, xup_same, ups_ne]; rw [eds.2]) rfl
    exact (x7.itr_up hi (by simp (disch := omega) only [ups_ne]; exact hil)).itr_up hk (by simp (disch := omega) only [ups_ne]; exact hkl)
  have hTF : TF (wMb w t i k d r u am p l) t := by
    have q1 : dl (wMb w t i k d r u am p l) t = (w (210 + d)).toNat := by unfold dl; rw [ed, eo _ (by omega)]
    have q2 : rc (wMb w t i k d r u am p l) t = (w (210 + r)).toNat := by unfold rc; rw [er, eo _ (by omega)]
    have q3 : pp (wMb w t i k d r u am p l) t = s := by unfold pp; rw [ed, eo _ (by omega), eds.1]; exact Int.toNat_natCast s
    have q4 : wMb w t i k d r u am p l (730 + t) = (d : Int) := by unfold wMb; simp (disch := omega) only [ups_ne, ups_same]
    have q5 : wMb w t i k d r u am p l (750 + t) = (r : Int) := by unfold wMb; simp (disch := omega) only [ups_ne, ups_same]
    unfold TF
    rw [q1, q2, q3, q4, q5, ed, er, eo (210 + d) (by omega), eo (210 + r) (by omega), eo (330 + d) (by omega), eds.1]
    rcases hdr with ⟨rfl, rfl⟩ | ⟨rfl, rfl⟩
    · rw [ha, hb, Int.toNat_natCast, Int.toNat_natCast]
      exact ⟨ht, hd40, hr40, hb10, ha10, hs, rfl, rfl, rfl, rfl, rfl, fun z => hab z.symm⟩
    · rw [ha, hb, Int.toNat_natCast, Int.toNat_natCast]
      exact ⟨ht, hd40, hr40, ha10, hb10, hs, rfl, rfl, rfl, rfl, rfl, hab⟩
  obtain ⟨p1, p2⟩ := c_ps hRb hTF 1
  have f' := hTF.fr (w' := wPs (wMb w t i k d r u am p l) t 1) (fun j hj => by unfold wPs; rw [ed, er, ups_ne (by omega), ups_ne (by omega), ups_ne (by omega)])
  have hTm : told (mMa M t i k d r (w (210 + d)) (w (210 + r)) (w (330 + i)) u am (w (450 + i)) p l) T := fun x hx => by
    unfold mMa; simp (disch := omega) only [xup_c]; exact hT x hx
  obtain ⟨M2, b1, b2, b3⟩ := c_tb p2 (T := T) (((hTm.c (by omega)).c (by omega)).c (by omega)) f'.1 (by unfold wPs; rw [ed, er, ups_ne (by omega), ups_ne (by omega), ups_ne (by omega)]; unfold wMb; simp (disch := omega) only [ups_ne, ups_same]; omega)
  refine ⟨M2, ?_, p2.fr (fun c h1 h2 => b3 c (by omega)), b2, fun c x h1 h2 h3 => ?_, f'.1⟩
  · rw [hcm, p1, xb_l, b1, xb_l]; rfl
  · rw [b3 c h1]
    unfold mPs mMa
    rw [ed, er]
    rw [xup_c (by omega), xup_c (by omega), xup_c (by omega), xup_c (by omega), xup_c (by omega), xup_ne h2, xup_c (by omega), xup_c (by omega), xup_c (by omega), xup_c (by omega), xup_c (by omega), xup_c (by omega), xup_c (by omega), xup_c (by omega), xup_c (by omega), xup_c (by omega)]
