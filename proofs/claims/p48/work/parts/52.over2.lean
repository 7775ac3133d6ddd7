theorem c_cp6 {a b : Nat} (M : xM) : fX6_copyFrom (123 + a) (123 + b) M = some (.inl 0, xup (xup (xup M (123 + a) 0 (M (123 + b) 0)) (123 + a) 1 (M (123 + b) 1)) (123 + a) 2 (M (123 + b) 2)) := by
  unfold fX6_copyFrom
  simp (disch := omega) only [xput_b, xup_k]
  by_cases q : a = b
  · subst q
    rw [xup_k (by omega), xup_k (by omega), xup_k (by omega)]; rfl
  · rw [xup_c (a := 123 + b) (by omega), xup_c (a := 123 + b) (by omega), xup_c (a := 123 + b) (by omega)]; rfl
theorem c_nm6 {M : xM} {w : Nat → Int} {k : Nat} (h0 : M (123 + k) 0 = w (890 + k)) (h1 : M (123 + k) 1 = w (900 + k)) (x : Int) : fX6_names (123 + k) x M = some (.inl (bi (sNm w x k)), M) := by
  unfold fX6_names fX6_names_16 sNm
  rw [h0, h1]
  by_cases a1 : w (890 + k) = x
  · rw [if_pos a1, decide_eq_true a1]; rfl
  · rw [if_neg a1, decide_eq_false a1]
    by_cases a2 : w (900 + k) = x
    · rw [if_pos a2, decide_eq_true a2]; rfl
    · rw [if_neg a2, decide_eq_false a2]; rfl
theorem c_ct_l {t nk : Nat} (hnk : nk ≤ 10) : ∀ (k i l n : Nat) (M : xM) (w : Nat → Int), i + k = nk → l ≤ i → k < n → M 3 13 = (nk : Int) → M (102 + t) 0 = (t : Int) → (∀ j : Nat, j < 10 → (j < l ∨ (i ≤ j ∧ j < nk)) → M (123 + j) 0 = w (890 + j) ∧ M (123 + j) 1 = w (900 + j) ∧ M (123 + j) 2 = w (910 + j)) → t < 20 → ∃ M', fX1_cancelTrade_15 3 (102 + t) n (l : Int) (i : Int) M = some (.inl 0, M') ∧ (∀ c k, ¬ (123 ≤ c ∧ c < 133) → ¬ (c = 3 ∧ k = 13) → M' c k = M c k) ∧ M' 3 13 = wLk (t : Int) true k i l w 1544 ∧ ∀ j : Nat, j < 10 → (j : Int) < wLk (t : Int) true k i l w 1544 → M' (123 + j) 0 = wLk (t : Int) true k i l w (890 + j) ∧ M' (123 + j) 1 = wLk (t : Int) true k i l w (900 + j) ∧ M' (123 + j) 2 = wLk (t : Int) true k i l w (910 + j)
  | _, _, _, 0, _, _, _, _, hn, _, _, _, _ => absurd hn (Nat.not_lt_zero _)
  | 0, i, l, n + 1, M, w, hi, hl, _, h3, ht, hr, _ => by
    refine ⟨xup M 3 13 (l : Int), ?_, fun c k a b => xup_ne b, ?_, fun j hj hc => ?_⟩
    · rw [fX1_cancelTrade_15, if_pos (by rw [h3]; omega)]; rfl
    · rw [xup_same]; unfold wLk; rw [ups_same]
    · unfold wLk at hc ⊢
      rw [ups_same] at hc
      rw [xup_c (by omega), xup_c (by omega), xup_c (by omega), ups_ne (by omega), ups_ne (by omega), ups_ne (by omega)]; exact hr j hj (Or.inl (by omega))
  | k + 1, i, l, n + 1, M, w, hi, hl, hn, h3, ht, hr, ht2 => by
    obtain ⟨r0, r1, r2⟩ := hr i (by omega) (Or.inr (by omega))
    have e : ∀ x : Nat, x ≠ l → (ups (ups (ups w (890 + l) (w (890 + i))) (900 + l) (w (900 + i))) (910 + l) (w (910 + i))) (890 + x) = w (890 + x) ∨ ¬ x < 10 := fun x hx => by
      by_cases q : x < 10
      · left; rw [ups_ne (by omega), ups_ne (by omega), ups_ne (by omega)]
      · exact Or.inr q
    rw [fX1_cancelTrade_15, if_neg (by rw [h3]; omega), c_lnk (by omega), xb_l, Int.toNat_natCast, ht, c_nm6 r0 r1, xb_l, if_b0]
    unfold fX1_cancelTrade_54
    rw [w32_s (by omega)]
    cases q : sNm w (t : Int) i
    · rw [if_f, c_lnk (by omega), xb_l, c_lnk (by omega), xb_l, Int.toNat_natCast, Int.toNat_natCast, c_cp6, xb_l, w32_s (by omega)]
      have hrow : ∀ j : Nat, j < 10 → (j < l + 1 ∨ (i + 1 ≤ j ∧ j < nk)) → (xup (xup (xup M (123 + l) 0 (M (123 + i) 0)) (123 + l) 1 (M (123 + i) 1)) (123 + l) 2 (M (123 + i) 2)) (123 + j) 0 = (ups (ups (ups w (890 + l) (w (890 + i))) (900 + l) (w (900 + i))) (910 + l) (w (910 + i))) (890 + j) ∧ (xup (xup (xup M (123 + l) 0 (M (123 + i) 0)) (123 + l) 1 (M (123 + i) 1)) (123 + l) 2 (M (123 + i) 2)) (123 + j) 1 = (ups (ups (ups w (890 + l) (w (890 + i))) (900 + l) (w (900 + i))) (910 + l) (w (910 + i))) (900 + j) ∧ (xup (xup (xup M (123 + l) 0 (M (123 + i) 0)) (123 + l) 1 (M (123 + i) 1)) (123 + l) 2 (M (123 + i) 2)) (123 + j) 2 = (ups (ups (ups w (890 + l) (w (890 + i))) (900 + l) (w (900 + i))) (910 + l) (w (910 + i))) (910 + j) := fun j hj hc => by
        by_cases z : j = l
        · subst z
          simp (disch := omega) only [xup_k, xup_same, ups_ne, ups_same]
          exact ⟨r0, r1, r2⟩
        · rw [xup_c (by omega), xup_c (by omega), xup_c (by omega), xup_c (by omega), xup_c (by omega), xup_c (by omega), xup_c (by omega), xup_c (by omega), xup_c (by omega)]
          simp (disch := omega) only [ups_ne]
          exact hr j hj (by omega)
      obtain ⟨M', g1, g2, g3, g4⟩ := c_ct_l hnk k (i + 1) (l + 1) n _ _ (by omega) (by omega) (by omega) (by rw [xup_c (by omega), xup_c (by omega), xup_c (by omega)]; exact h3) (by rw [xup_c (by omega), xup_c (by omega), xup_c (by omega)]; exact ht) hrow ht2
      refine ⟨M', g1, fun c x a b => ?_, ?_, ?_⟩
      · rw [g2 c x a b, xup_c (by omega), xup_c (by omega), xup_c (by omega)]
      · rw [g3, wLk, gG, q]; rfl
      · rw [wLk, gG, q]; exact g4
    · rw [if_t]
      have hrow : ∀ j : Nat, j < 10 → (j < l ∨ (i + 1 ≤ j ∧ j < nk)) → M (123 + j) 0 = (ups (ups (ups w (890 + l) (w (890 + i))) (900 + l) (w (900 + i))) (910 + l) (w (910 + i))) (890 + j) ∧ M (123 + j) 1 = (ups (ups (ups w (890 + l) (w (890 + i))) (900 + l) (w (900 + i))) (910 + l) (w (910 + i))) (900 + j) ∧ M (123 + j) 2 = (ups (ups (ups w (890 + l) (w (890 + i))) (900 + l) (w (900 + i))) (910 + l) (w (910 + i))) (910 + j) := fun j hj hc => by
        simp (disch := omega) only [ups_ne]
        exact hr j hj (by omega)
      obtain ⟨M', g1, g2, g3, g4⟩ := c_ct_l hnk k (i + 1) l n M _ (by omega) (by omega) (by omega) h3 ht hrow ht2
      refine ⟨M', g1, g2, ?_, ?_⟩
      · rw [g3, wLk, gG, q]; rfl
      · rw [wLk, gG, q]; exact g4
/-- a trade is over: 1 settled, 2 cancelled -/
def wOv (w : Nat → Int) (t : Nat) (how : Int) : Nat → Int := wLk (t : Int) (decide (how = 2)) (w 1544).toNat 0 0 (wPs w t (how + 1))
/-- cells that the end of a trade leaves -/
def ofO (M M' : xM) : Prop := ∀ c k, c ≠ 2 → ¬ (c = 3 ∧ k = 13) → (c < 61 ∨ 133 ≤ c) → M' c k = M c k
theorem c_ct {M : xM} {w T : Nat → Int} (hR : R M w) (hT : told M T) (hC : IC w) {t : Nat} (f : TF w t) (ht : (t : Int) < w 1543) : ∃ M', fX1_cancelTrade 3 (102 + t) M = some (.inl 0, M') ∧ R M' (wOv w t 2) ∧ told M' (sTb w T t) ∧ ofO M M' := by
  have hk := hC.2.2.2.2.1
  obtain ⟨f0, f1, f2, -⟩ := id f
  obtain ⟨p1, p2⟩ := c_ps hR f 3
  have f' := f.fr (w' := wPs w t 3) (fun j hj => by unfold wPs; rw [ups_ne (by omega), ups_ne (by omega), ups_ne (by omega)])
  obtain ⟨M2, b1, b2, b3⟩ := c_tb p2 (T := T) (((hT.c (by omega)).c (by omega)).c (by omega)) f'.1 (by unfold wPs; rw [ups_ne (by omega), ups_ne (by omega), ups_ne (by omega)]; exact ht)
  have hR2 : R M2 (wPs w t 3) := p2.fr (fun c h1 h2 => b3 c (by omega))
  obtain ⟨nk, hnk⟩ := ex_nat hk.1
  have e44 : wPs w t 3 1544 = (nk : Int) := by unfold wPs; rw [ups_ne (by omega), ups_ne (by omega), ups_ne (by omega)]; exact hnk
  obtain ⟨M', g1, g2, g3, g4⟩ := c_ct_l (t := t) (nk := nk) (by omega) nk 0 0 xN M2 (wPs w t 3) (by omega) (by omega) (by unfold xN; omega) (by rw [hR2.nK]; exact e44) (hR2.tN f0) (fun j hj hc => ⟨hR2.kfst hj (by omega), hR2.ksnd hj (by omega), hR2.kwit hj (by omega)⟩) f0
  have eo : wOv w t 2 = wLk (t : Int) true nk 0 0 (wPs w t 3) := by
    unfold wOv; rw [hnk]; rfl
  rw [← eo] at g3 g4
  refine ⟨M', ?_, hR2.lks g2 (fun j h1 h2 => by rw [eo]; exact wLk_ne _ _ nk 0 0 _ (by omega) (by omega) j h1 h2) g3 g4, fun a ha => ?_, fun c k h1 h2 h3 => ?_⟩
  · unfold fX1_cancelTrade
    rw [p1, xb_l, b1, xb_l]; exact g1
  · rw [g2 2 a (by omega) (by omega)]
    have := b2 a ha
    unfold sTb at this ⊢
    rw [f'.2.2.2.1, f'.2.2.2.2.1] at this; exact this
  · rw [g2 c k (by omega) h2, b3 c h1]
    unfold mPs
    rw [xup_c (by omega), xup_c (by omega), xup_c (by omega)]
-- the model's
theorem m_dl {M : xM} {t : Nat} (f : TF (M 401) t) : fX12_deliverer 400 (t : Int) M = some (.inl (dl (M 401) t : Int), M) := by
  obtain ⟨f0, f1, f2, f3, f4, f5, f6, f7, f8, f9, f10, -⟩ := f
  unfold fX12_deliverer
  simp (disch := omega) only [w32_i, xix_t, xr_400_0, tn_add, Int.toNat_natCast, Int.reduceToNat, f6, f8]; rfl
theorem m_rc {M : xM} {t : Nat} (f : TF (M 401) t) : fX12_receiver 400 (t : Int) M = some (.inl (rc (M 401) t : Int), M) := by
  obtain ⟨f0, f1, f2, f3, f4, f5, f6, f7, f8, f9, f10, -⟩ := f
  unfold fX12_receiver
  simp (disch := omega) only [w32_i, xix_t, xr_400_0, tn_add, Int.toNat_natCast, Int.reduceToNat, f7, f9]; rfl
theorem m_pp {M : xM} {t : Nat} (f : TF (M 401) t) : fX12_paper 400 (t : Int) M = some (.inl (pp (M 401) t : Int), M) := by
  obtain ⟨f0, f1, f2, f3, f4, f5, f6, f7, f8, f9, f10, -⟩ := f
  unfold fX12_paper
  simp (disch := omega) only [w32_i, xix_t, xr_400_0, tn_add, Int.toNat_natCast, Int.reduceToNat, f6, f10]; rfl
theorem m_tel {M : xM} {w T : Nat → Int} {h : Int} {t : Nat} (f : TF w t) : fX12_tell 400 (t : Int) (st M w T h) = some (.inl 0, st M w (sTb w T t) h) := by
  have f3 := f.2.2.2.1
  have f4 := f.2.2.2.2.1
  unfold fX12_tell
  rw [m_dl (M := st M w T h) f, xb_l, xr_400_3, st_401, Int.toNat_natCast, xix_t (by omega) (by omega), xix_t (by omega) (by omega), xput_b, st_403, st_t, m_rc (M := st M w _ h) f, xb_l, st_401, Int.toNat_natCast, xix_t (by omega) (by omega), xix_t (by omega) (by omega), xput_b, st_403, st_t]; rfl
theorem m_over_l {M : xM} {T : Nat → Int} {h how : Int} (t : Nat) : ∀ (k i l n : Nat) (w : Nat → Int), w 1544 = (i : Int) + k → i + k ≤ 10 → l ≤ i → k < n → fX12_over_70 400 (t : Int) how n (l : Int) (i : Int) (st M w T h) = some (.inl 0, st M (wLk (t : Int) (decide (how = 2)) k i l w) T h)
  | _, _, _, 0, _, _, _, _, hn => absurd hn (Nat.not_lt_zero _)
  | 0, i, l, n + 1, w, hw, hi, hl, _ => by
    rw [fX12_over_70, xr_400_0, st_401, if_pos (by omega), xput_b, st_w]; rfl
  | k + 1, i, l, n + 1, w, hw, hi, hl, hn => by
    have key : ∀ b : Bool, fX12_over_129 (fX12_over_70 400 (t : Int) how n) 400 (t : Int) how (l : Int) (i : Int) (bi b) (st M w T h) = some (.inl 0, st M (wLk (t : Int) (decide (how = 2)) k (i + 1) (if b then l else l + 1) (ups (ups (ups w (890 + l) (w (890 + i))) (900 + l) (w (900 + i))) (910 + l) (w (910 + i)))) T h) := fun b => by
      have e44 : (ups (ups (ups w (890 + l) (w (890 + i))) (900 + l) (w (900 + i))) (910 + l) (w (910 + i))) 1544 = ((i + 1 : Nat) : Int) + k := by
        rw [ups_ne (by omega), ups_ne (by omega), ups_ne (by omega)]; omega
      have ih := fun l2 (h2 : l2 ≤ i + 1) => m_over_l (M := M) (T := T) (h := h) (how := how) t k (i + 1) l2 n (ups (ups (ups w (890 + l) (w (890 + i))) (900 + l) (w (900 + i))) (910 + l) (w (910 + i))) e44 (by omega) h2 (by omega)
      unfold fX12_over_129 fX12_over_205
      simp (disch := omega) only [w32_i, xix_t, xr_400_0, tn_add, Int.toNat_natCast, Int.reduceToNat, xput_b, st_w, st_401, ups_ne, xlet_b, if_b0]
      rw [show (i : Int) + 1 = ((i + 1 : Nat) : Int) by omega, show (l : Int) + 1 = ((l + 1 : Nat) : Int) by omega, Int.add_zero, ih l (by omega), ih (l + 1) (by omega)]
      cases b <;> rfl
    rw [fX12_over_70, xr_400_0, st_401, if_neg (by omega)]
    unfold fX12_over_124 fX12_over_128
    rw [show fX12_over_129 (fX12_over_70 400 (t : Int) how n) 400 (t : Int) how (l : Int) (i : Int) 0 (st M w T h) = _ from key false, show fX12_over_129 (fX12_over_70 400 (t : Int) how n) 400 (t : Int) how (l : Int) (i : Int) 1 (st M w T h) = _ from key true]
    simp (disch := omega) only [w32_i, xix_t, tn_add, Int.toNat_natCast, Int.reduceToNat]
    rw [wLk]
    unfold gG sNm
    by_cases z : how = 2
    · rw [if_pos z, decide_eq_true z]
      by_cases a1 : w (890 + i) = (t : Int)
      · rw [if_pos a1, decide_eq_true a1]; rfl
      · rw [if_neg a1, decide_eq_false a1]
        by_cases a2 : w (900 + i) = (t : Int)
        · rw [if_pos a2, decide_eq_true a2]; rfl
        · rw [if_neg a2, decide_eq_false a2]; rfl
    · rw [if_neg z, decide_eq_false z]; rfl
theorem m_over {M : xM} {w T : Nat → Int} {h how : Int} {t : Nat} (hC : IC w) (f : TF w t) (hh : how = 1 ∨ how = 2) : fX12_over 400 (t : Int) how (st M w T h) = some (.inl 0, st M (wOv w t how) (sTb w T t) h) := by
  obtain ⟨f0, f1, f2, f3, f4, f5, f6, f7, -⟩ := id f
  have hk := hC.2.2.2.2.1
  obtain ⟨nk, hnk⟩ := ex_nat hk.1
  have ew : ∀ j, ¬ (570 ≤ j ∧ j < 610) → ¬ (870 ≤ j ∧ j < 890) → wPs w t (how + 1) j = w j := fun j h1 h2 => by
    unfold wPs; rw [ups_ne (by omega), ups_ne (by omega), ups_ne (by omega)]
  have f' := f.fr (w' := wPs w t (how + 1)) (fun j hj => ew j (by omega) (by omega))
  have e1 : w32 (1 + how) = how + 1 := by rw [w32_i (by omega) (by omega)]; omega
  have e2 : ups (ups (ups w (870 + t) how) (570 + di w t) (how + 1)) (570 + ri w t) (how + 1) = wPs w t (how + 1) := by
    unfold wPs; rw [show how + 1 - 1 = how by omega]
  have eT : sTb (wPs w t (how + 1)) T t = sTb w T t := by
    unfold sTb; rw [f'.2.2.2.1, f'.2.2.2.2.1]
  have hl := m_over_l (M := M) (T := sTb w T t) (h := h) (how := how) t nk 0 0 xN (wPs w t (how + 1)) (by rw [ew 1544 (by omega) (by omega), hnk]; omega) (by omega) (by omega) (by unfold xN; omega)
  unfold fX12_over
  rw [e1]
  simp (disch := omega) only [w32_i, xix_t, xr_400_0, tn_add, Int.toNat_natCast, Int.reduceToNat, xput_b, st_w, st_401, ups_ne, f6, f7]
  rw [e2, m_tel f'.1, xb_l, eT]
  unfold wOv
  rw [show (w 1544).toNat = nk by omega]
  exact hl
