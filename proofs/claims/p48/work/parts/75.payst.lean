-- paying: one step of class and model
theorem wLk_upg (t : Int) (g : Bool) {j : Nat} {v : Int} (hj : j < 890 ∨ (920 ≤ j ∧ j ≠ 1544)) : ∀ (k i l : Nat) (w : Nat → Int), i + k ≤ 10 → l ≤ i → wLk t g k i l (ups w j v) = ups (wLk t g k i l w) j v
  | 0, i, l, w, _, _ => by unfold wLk; exact ups_comm (by omega)
  | k + 1, i, l, w, hi, hl => by
    unfold wLk
    have e : gG (ups w j v) t g i = gG w t g i := by
      unfold gG sNm; rw [ups_ne (by omega), ups_ne (by omega)]
    rw [e, ups_ne (i := 890 + i) (by omega), ups_ne (i := 900 + i) (by omega), ups_ne (i := 910 + i) (by omega), ups_comm (i := j) (j := 890 + l) (by omega), ups_comm (i := j) (j := 900 + l) (by omega), ups_comm (i := j) (j := 910 + l) (by omega)]
    exact wLk_upg t g hj k (i + 1) _ _ (by omega) (by split <;> omega)
theorem wOv_upg {w : Nat → Int} (hC : IC w) {t : Nat} (ht : t < 20) (f : di w t < 40 ∧ ri w t < 40) {how : Int} {j : Nat} {v : Int} (hj : j < 570 ∨ (610 ≤ j ∧ j < 730) ∨ (770 ≤ j ∧ j < 870) ∨ (920 ≤ j ∧ j ≠ 1544)) : wOv (ups w j v) t how = ups (wOv w t how) j v := by
  have hk := hC.2.2.2.2.1
  unfold wOv wPs
  have e1 : di (ups w j v) t = di w t := by unfold di; rw [ups_ne (by omega)]
  have e2 : ri (ups w j v) t = ri w t := by unfold ri; rw [ups_ne (by omega)]
  rw [e1, e2, ups_ne (i := 1544) (by omega), ups_comm (i := j) (j := 870 + t) (by omega), ups_comm (i := j) (j := 570 + di w t) (by omega), ups_comm (i := j) (j := 570 + ri w t) (by omega)]
  exact wLk_upg _ _ (by omega) _ 0 0 _ (by omega) (by omega)
theorem Inv0.tun {w : Nat → Int} (h : Inv0 w) {t : Nat} (ht : (t : Int) < w 1543) {a b : Int} (ha : 0 ≤ a ∧ a ≤ KQ w) (hb : 0 ≤ b ∧ b ≤ KQ w) (hp : w (870 + t) = 0 → 1 ≤ a) : Inv0 (ups (ups w (770 + t) a) (830 + t) b) := by
  obtain ⟨hC, hA, hS, hH, hI, hT, hK, hL, hE⟩ := h
  have c3 := hC.2.2.2.1
  have c2 := hC.2.2.1
  have ht4 : t < 20 := by omega
  have ne : ∀ j, j ≠ 770 + t → j ≠ 830 + t → ups (ups w (770 + t) a) (830 + t) b j = w j := fun j h1 h2 => by rw [ups_ne h2, ups_ne h1]
  refine ⟨hC.fr (fun j _ _ => ne j (by omega) (by omega)), hA.fr hC (fun j _ => ne j (by omega) (by omega)), hS.fr (fun j _ => ne j (by omega) (by omega)), hH.fr (fun j _ => ne j (by omega) (by omega)), hI.fr hC (fun j _ => ne j (by omega) (by omega)), ?_, hK.fr (fun j _ => ne j (by omega) (by omega)), hL.fr (fun j _ => ne j (by omega) (by omega)), hE.fr (fun j _ => ne j (by omega) (by omega))⟩
  intro u hu
  have k := hT u hu
  have hKQ : KQ (ups (ups w (770 + t) a) (830 + t) b) = KQ w := KQ_eq (fun e he => ne _ (by omega) (by omega))
  have e1 : di (ups (ups w (770 + t) a) (830 + t) b) u = di w u := by unfold di; rw [ne _ (by omega) (by omega)]
  have e2 : ri (ups (ups w (770 + t) a) (830 + t) b) u = ri w u := by unfold ri; rw [ne _ (by omega) (by omega)]
  rw [hKQ, e1, e2]
  refine ⟨fun hl => ?_, fun hl => ?_⟩
  · rw [ne _ (by omega) (by omega)] at hl
    obtain ⟨k1, k2, k3, k4, k5, k6, k7, k8, k9, k10, k11, k12, k13, k14⟩ := k.1 hl
    have b1 : di w u < 40 := by unfold di; omega
    have b2 : ri w u < 40 := by unfold ri; omega
    have v1 : 0 ≤ ups (ups w (770 + t) a) (830 + t) b (770 + u) ∧ ups (ups w (770 + t) a) (830 + t) b (770 + u) ≤ KQ w ∧ (w (870 + u) = 0 → 1 ≤ ups (ups w (770 + t) a) (830 + t) b (770 + u)) := by
      by_cases z : u = t
      · rw [z, ups_ne (by omega), ups_same]; exact ⟨ha.1, ha.2, hp⟩
      · rw [ne _ (by omega) (by omega)]; exact ⟨k4.1, k4.2, k5⟩
    have v2 : 0 ≤ ups (ups w (770 + t) a) (830 + t) b (830 + u) ∧ ups (ups w (770 + t) a) (830 + t) b (830 + u) ≤ KQ w := by
      by_cases z : u = t
      · rw [z, ups_same]; exact hb
      · rw [ne _ (by omega) (by omega)]; exact k8
    rw [ne (870 + u) (by omega) (by omega)]
    generalize ups (ups w (770 + t) a) (830 + t) b (770 + u) = y1 at v1
    generalize ups (ups w (770 + t) a) (830 + t) b (830 + u) = y2 at v2
    simp (disch := omega) only [ne]
    exact ⟨k1, k2, k3, ⟨v1.1, v1.2.1⟩, v1.2.2, k6, k7, v2, k9, k10, k11, k12, k13, k14⟩
  · rw [ne _ (by omega) (by omega)] at hl
    rw [ne _ (by omega) (by omega), ne _ (by omega) (by omega)]; exact k.2 hl
/-- the invariants while trades are split -/
def GT (e : Nat) (w : Nat → Int) (t0 : Nat) (K : Int) : Prop := Inv0 (ups w (1130 + e) 1) ∧ 3 * K ≤ KQ (ups w (1130 + e) 1) ∧ (0 ≤ K ∧ K ≤ 59049000000) ∧ ∀ u : Nat, u < 20 → t0 ≤ u → (u : Int) < w 1543 → w (770 + u) ≤ K ∧ w (830 + u) ≤ K
theorem GT.lt {e : Nat} (he : e < 10) {w : Nat → Int} {t0 : Nat} {K : Int} (h : GT e w t0 K) : LT w :=
  ⟨h.1.1.fr (fun j _ _ => (ups_ne (by omega)).symm), fun t ht => (((h.1.tf (t := t) (by rw [ups_ne (by omega)]; exact ht))).fr (w' := w) (fun j hj => (ups_ne (by omega)).symm)).1⟩
theorem GT.step {e : Nat} (he : e < 10) {A B : Int} (hA : AB A) (hB : AB B) {w : Nat → Int} {t s : Nat} {K : Int} (h : GT e w t K) (ht : (t : Int) < w 1543) : GT e (wSt A B s w t) (t + 1) K := by
  have hL := h.lt he
  have f := hL.2 t ht
  have f0 := f.1
  obtain ⟨h1, h2, h3, h4⟩ := h
  have ne := fun (j : Nat) hj => wSt_ne (A := A) (B := B) (s := s) hL.1 f (j := j) hj
  have k4 := h4 t f0 (Nat.le_refl t) ht
  have kT := (h1.2.2.2.2.2.1 t f0).1 (by rw [ups_ne (by omega)]; exact ht)
  have kT4 := kT.2.2.2.1.1
  have kT8 := kT.2.2.2.2.2.2.2.1.1
  rw [ups_ne (by omega)] at kT4 kT8
  have va := sp_v hA hB kT4 (by omega)
  have vb := sp_v hA hB kT8 (by omega)
  have hKe : KQ (ups (wSt A B s w t) (1130 + e) 1) = KQ (ups w (1130 + e) 1) := KQ_eq (fun x hx => by
    unfold ups; split
    · rfl
    · exact ne _ (by omega))
  refine ⟨?_, by rw [hKe]; exact h2, h3, fun u hu hl hc => ?_⟩
  · unfold wSt
    cases q : gSt w s t
    · exact h1
    · rw [if_t]
      have q1 : w (870 + t) = 0 := of_decide_eq_true (and_tt q).1
      have ff : di w t < 40 ∧ ri w t < 40 := ⟨f.2.1, f.2.2.1⟩
      by_cases z : sSp A B (w (770 + t)) = 0
      · rw [if_pos z]
        have o := h1.over (t := t) (how := 2) (by rw [ups_ne (by omega)]; exact ht) (by rw [ups_ne (by omega)]; exact q1) (Or.inr rfl)
        rw [wOv_upg hL.1 f0 ff (by omega)] at o
        have oKQ : KQ (ups (wOv w t 2) (1130 + e) 1) = KQ (ups w (1130 + e) 1) := KQ_eq (fun x hx => by
          unfold ups; split
          · rfl
          · exact wOv_n hL.1 (by omega) (by omega) (by omega) (by omega) ff.1 ff.2)
        have o43 : ups (wOv w t 2) (1130 + e) 1 1543 = w 1543 := by
          rw [ups_ne (by omega)]; exact wOv_n hL.1 (by omega) (by omega) (by omega) (by omega) ff.1 ff.2
        have o87 : ups (wOv w t 2) (1130 + e) 1 (870 + t) ≠ 0 := by
          rw [ups_ne (by omega), wOv_ne hL.1 (by omega) (by omega)]
          unfold wPs
          rw [ups_ne (by omega), ups_ne (by omega), ups_same]; decide
        have r := o.tun (t := t) (a := sSp A B (w (770 + t))) (b := sSp A B (w (830 + t))) (by rw [o43]; exact ht) (by rw [oKQ]; omega) (by rw [oKQ]; omega) (fun y => absurd y o87)
        have e1 : wOv (wS1 A B w t) t 2 = ups (ups (wOv w t 2) (770 + t) (sSp A B (w (770 + t)))) (830 + t) (sSp A B (w (830 + t))) := by
          unfold wS1
          have d1 : di (ups w (770 + t) (sSp A B (w (770 + t)))) t = di w t := by unfold di; rw [ups_ne (by omega)]
          have d2 : ri (ups w (770 + t) (sSp A B (w (770 + t)))) t = ri w t := by unfold ri; rw [ups_ne (by omega)]
          rw [wOv_upg (w := ups w (770 + t) (sSp A B (w (770 + t)))) (hL.1.fr (fun j _ _ => ups_ne (by omega))) f0 (by rw [d1, d2]; exact ff) (by omega), wOv_upg hL.1 f0 ff (by omega)]
        rw [e1, ups_comm (i := 830 + t) (j := 1130 + e) (by omega), ups_comm (i := 770 + t) (j := 1130 + e) (by omega)]
        exact r
      · rw [if_neg z]
        have r := h1.tun (t := t) (a := sSp A B (w (770 + t))) (b := sSp A B (w (830 + t))) (by rw [ups_ne (by omega)]; exact ht) (by omega) (by omega) (fun _ => by omega)
        unfold wS1
        rw [ups_comm (i := 830 + t) (j := 1130 + e) (by omega), ups_comm (i := 770 + t) (j := 1130 + e) (by omega)]
        exact r
  · rw [ne 1543 (by omega)] at hc
    rw [ne _ (by omega), ne _ (by omega)]
    exact h4 u hu (by omega) hc
theorem lSt_i {e : Nat} (he : e < 10) {A B : Int} (hA : AB A) (hB : AB B) {s : Nat} {K : Int} : ∀ (k t : Nat) (w T : Nat → Int), (t : Int) + k = w 1543 → GT e w t K → GT e (lSt A B s k t w T).1 (t + k) K ∧ ∀ j, (j < 570 ∨ (610 ≤ j ∧ j < 770) ∨ (790 ≤ j ∧ j < 830) ∨ (850 ≤ j ∧ j < 870) ∨ (920 ≤ j ∧ j ≠ 1544)) → (lSt A B s k t w T).1 j = w j
  | 0, _, _, _, _, h => ⟨h, fun _ _ => rfl⟩
  | k + 1, t, w, T, ht, h => by
    have hL := h.lt he
    have f := hL.2 t (by omega)
    have ne := fun (j : Nat) hj => wSt_ne (A := A) (B := B) (s := s) hL.1 f (j := j) hj
    obtain ⟨i1, i2⟩ := lSt_i he hA hB (s := s) k (t + 1) (wSt A B s w t) (tSt A B s w T t) (by rw [ne 1543 (by omega)]; omega) (h.step he hA hB (by omega))
    unfold lSt
    exact ⟨by rw [show t + (k + 1) = t + 1 + k by omega]; exact i1, fun j hj => by rw [i2 j hj, ne j (by omega)]⟩
theorem AB.r {A : Int} (h : AB A) : 1 ≤ A ∧ A ≤ 3 := by rcases h with h | h | h <;> omega
theorem c_lSt {e : Nat} (he : e < 10) {A B : Int} (hA : AB A) (hB : AB B) {s : Nat} {K : Int} : ∀ (k t n : Nat) (M : xM) (w T : Nat → Int), (t : Int) + k = w 1543 → k < n → SS M w T → GT e w t K → w (1060 + e) = (s : Int) → w (1070 + e) = A → w (1080 + e) = B → ∃ M', fX3_splitTrades_2 399 (155 + 4 * e) n (t : Int) M = some (.inl 0, M') ∧ SS M' (lSt A B s k t w T).1 (lSt A B s k t w T).2 ∧ fz M M'
  | _, _, 0, _, _, _, _, hn, _, _, _, _, _ => absurd hn (Nat.not_lt_zero _)
  | 0, t, n + 1, M, w, T, ht, _, hS, hG, _, _, _ => by
    refine ⟨M, ?_, hS, fz.refl M⟩
    rw [fX3_splitTrades_2, xr_399_0, if_pos (by rw [hS.1.nT]; omega)]; rfl
  | k + 1, t, n + 1, M, w, T, ht, hn, hS, hG, e1, e2, e3 => by
    have hl : (t : Int) < w 1543 := by omega
    have hL := hG.lt he
    have f := hL.2 t hl
    have f0 := f.1
    have ne := fun (j : Nat) hj => wSt_ne (A := A) (B := B) (s := s) hL.1 f (j := j) hj
    obtain ⟨M1, a1, a2, a3⟩ := c_st he e1 e2 e3 hB.r.1 hL hS hl (fX3_splitTrades_2 399 (155 + 4 * e) n)
    obtain ⟨M2, b1, b2, b3⟩ := c_lSt he hA hB k (t + 1) n M1 (wSt A B s w t) (tSt A B s w T t) (by rw [ne 1543 (by omega)]; omega) (by omega) a2 (hG.step he hA hB hl) (by rw [ne _ (by omega)]; exact e1) (by rw [ne _ (by omega)]; exact e2) (by rw [ne _ (by omega)]; exact e3)
    refine ⟨M2, ?_, b2, a3.trans b3⟩
    rw [fX3_splitTrades_2, xr_399_0, if_neg (by rw [hS.1.nT]; omega), c_trd (by omega), xb_l, Int.toNat_natCast, a1]
    unfold fX3_splitTrades_82
    rw [w32_s (by omega)]; exact b1
theorem gSt_up {w : Nat → Int} {s t : Nat} (f : TF w t) {j : Nat} {v : Int} (hj : 1050 ≤ j) : gSt (ups w j v) s t = gSt w s t ∧ pp (ups w j v) t = pp w t ∧ dl (ups w j v) t = dl w t ∧ rc (ups w j v) t = rc w t := by
  have g := f.fr (w' := ups w j v) (fun i hi => ups_ne (by omega))
  refine ⟨?_, g.2.2.2.2.2, g.2.2.2.1, g.2.2.2.2.1⟩
  unfold gSt
  rw [g.2.2.2.2.2, ups_ne (by have := f.1; omega)]
theorem wSt_up {w T : Nat → Int} {A B : Int} {s t : Nat} (hC : IC w) (f : TF w t) {j : Nat} {v : Int} (hj : 1050 ≤ j ∧ j < 1540) : wSt A B s (ups w j v) t = ups (wSt A B s w t) j v ∧ tSt A B s (ups w j v) T t = tSt A B s w T t := by
  have f0 := f.1
  obtain ⟨g1, g2, g3, g4⟩ := gSt_up (s := s) f (v := v) hj.1
  have e1 : wS1 A B (ups w j v) t = ups (wS1 A B w t) j v := by
    unfold wS1
    rw [ups_ne (i := 770 + t) (by omega), ups_ne (i := 830 + t) (by omega), ups_comm (i := j) (j := 770 + t) (by omega), ups_comm (i := j) (j := 830 + t) (by omega)]
  have d := wS1_d (A := A) (B := B) f
  have e2 : wOv (ups (wS1 A B w t) j v) t 2 = ups (wOv (wS1 A B w t) t 2) j v := wOv_upg (hC.fr (fun j _ _ => wS1_ne (by omega) (by omega))) f0 ⟨d.1.2.1, d.1.2.2.1⟩ (by omega)
  constructor
  · unfold wSt
    rw [g1, e1, e2, ups_ne (i := 770 + t) (by omega)]
    cases gSt w s t
    · rfl
    · rw [if_t, if_t]
      split <;> rfl
  · unfold tSt sTb
    rw [g1, g3, g4, ups_ne (i := 770 + t) (by omega)]
theorem lSt_up {e : Nat} (he : e < 10) {A B : Int} (hA : AB A) (hB : AB B) {s : Nat} {K : Int} : ∀ (k t : Nat) (w T : Nat → Int), (t : Int) + k = w 1543 → GT e w t K → lSt A B s k t (ups w (1130 + e) 1) T = (ups (lSt A B s k t w T).1 (1130 + e) 1, (lSt A B s k t w T).2)
  | 0, _, _, _, _, _ => rfl
  | k + 1, t, w, T, ht, h => by
    have hL := h.lt he
    have f := hL.2 t (by omega)
    have ne := fun (j : Nat) hj => wSt_ne (A := A) (B := B) (s := s) hL.1 f (j := j) hj
    obtain ⟨u1, u2⟩ := wSt_up (T := T) (A := A) (B := B) (s := s) hL.1 f (j := 1130 + e) (v := 1) (by omega)
    unfold lSt
    rw [u1, u2]
    exact lSt_up he hA hB k (t + 1) _ _ (by rw [ne 1543 (by omega)]; omega) (h.step he hA hB (by omega))
theorem m_lSt {M : xM} {h : Int} {e : Nat} (he : e < 10) {A B : Int} (hA : AB A) (hB : AB B) {s : Nat} {K : Int} : ∀ (k t n : Nat) (w T : Nat → Int), (t : Int) + k = w 1543 → k < n → GT e w t K → fX12_split_460 400 (s : Int) A B n (t : Int) (st M (ups w (1130 + e) 1) T h) = some (.inl 0, st M (ups (lSt A B s k t w T).1 (1130 + e) 1) (lSt A B s k t w T).2 h)
  | _, _, 0, _, _, _, hn, _ => absurd hn (Nat.not_lt_zero _)
  | 0, t, n + 1, w, T, ht, _, hG => by
    rw [fX12_split_460, xr_400_0, st_401, ups_ne (by omega), if_pos (by omega)]; rfl
  | k + 1, t, n + 1, w, T, ht, hn, hG => by
    have hL := hG.lt he
    have hl : (t : Int) < w 1543 := by omega
    have f := hL.2 t hl
    have ne := fun (j : Nat) hj => wSt_ne (A := A) (B := B) (s := s) hL.1 f (j := j) hj
    obtain ⟨u1, u2⟩ := wSt_up (T := T) (A := A) (B := B) (s := s) hL.1 f (j := 1130 + e) (v := 1) (by omega)
    have ih := m_lSt (M := M) (h := h) he hA hB (s := s) k (t + 1) n (wSt A B s w t) (tSt A B s w T t) (by rw [ne 1543 (by omega)]; omega) (by omega) (hG.step he hA hB hl)
    rw [m_st hB.r.1 hG.1.lt (by rw [ups_ne (by omega)]; exact hl), u1, u2, ih]; rfl
-- what doesn't depend on the mark that an event is done
theorem wCr_up {w : Nat → Int} (hP : PF w) {a s : Nat} (ha : a < 10) (hs : s < 4) {g : Int} {j : Nat} {v : Int} (hj : 1050 ≤ j) : wCr (ups w j v) a s g = ups (wCr w a s g) j v := by
  obtain ⟨c, o, hc, ho, e1, e2, e3, -⟩ := hP.rt ha hs
  have er : sRt (ups w j v) a s = sRt w a s := by
    rw [e3]; unfold sRt
    rw [ups_ne (i := 70 + a) (by omega), ups_ne (i := 180 + s) (by omega), ups_ne (i := 20 + a) (by omega), e1, e2, Int.toNat_natCast, Int.toNat_natCast, ups_ne (by omega)]
  unfold wCr sNt
  rw [er, ups_ne (i := 30 + a) (by omega), ups_comm (i := j) (j := 30 + a) (by omega)]
theorem lDv_up {e s : Nat} (he : e < 10) (hs : s < 4) {v : Int} : ∀ (k a : Nat) (w : Nat → Int), a + k ≤ 10 → PF w → lDv e s k a (ups w (1130 + e) v) = ups (lDv e s k a w) (1130 + e) v
  | 0, _, _, _, _ => rfl
  | k + 1, a, w, ha, hP => by
    unfold lDv
    rw [ups_ne (i := 1140 + 10 * e + a) (by omega), ups_ne (i := 1070 + e) (by omega), wCr_up hP (by omega) hs (by omega)]
    exact lDv_up he hs k (a + 1) _ (by omega) (hP.fr (fun j _ => wCr_ne (by omega)))
theorem lCm_up {e : Nat} (he : e < 10) {v : Int} : ∀ (k t : Nat) (w : Nat → Int), (t : Int) + k ≤ w 1543 → LT w → lCm e k t (ups w (1130 + e) v) = ups (lCm e k t w) (1130 + e) v
  | 0, _, _, _, _ => rfl
  | k + 1, t, w, ht, hL => by
    have f := hL.2 t (by omega)
    have f0 := f.1
    have g := f.fr (w' := ups w (1130 + e) v) (fun i hi => ups_ne (by omega))
    have ev := wOw_e (eqo.refl pm w) f.2.2.2.1 f.2.2.2.2.1 (w64 (w (1340 + 20 * e + t) * w (1070 + e)))
    have eo : ∀ x, wOw (ups w (1130 + e) v) (dl w t) (rc w t) x = ups (wOw w (dl w t) (rc w t) x) (1130 + e) v := fun x => by
      have b1 := f.2.2.2.1
      have b2 := f.2.2.2.2.1
      unfold wOw
      rw [ups_ne (i := 80 + dl w t) (by omega), ups_comm (i := 1130 + e) (j := 80 + dl w t) (by omega), ups_ne (i := 80 + rc w t) (j := 1130 + e) (by omega), ups_comm (i := 1130 + e) (j := 80 + rc w t) (by omega)]
    unfold lCm
    rw [ups_ne (i := 1340 + 20 * e + t) (by omega), ups_ne (i := 1070 + e) (by omega), g.2.2.2.1, g.2.2.2.2.1, eo]
    exact lCm_up he k (t + 1) _ (by rw [ev 1543 (pm_f (by omega))]; omega) (hL.pm ev)
theorem lOp_up {e s : Nat} (he : e < 10) (hs : s < 4) {A v : Int} : ∀ (k a : Nat) (w : Nat → Int), a + k ≤ 10 → PF w → lOp e s A k a (ups w (1130 + e) v) = ups (lOp e s A k a w) (1130 + e) v
  | 0, _, _, _, _ => rfl
  | k + 1, a, w, ha, hP => by
    have eg : sGo (ups w (1130 + e) v) e A a = sGo w e A a := sGo_e (ups_ne (by omega)) (ups_ne (by omega)) (ups_ne (by omega))
    have hc : wO2 (ups w (1130 + e) v) a s (sGo w e A a) = ups (wO2 w a s (sGo w e A a)) (1130 + e) v := by
      unfold wO2
      rw [ups_ne (i := 100 + 4 * a + s) (by omega), ups_ne (i := 192 + s) (by omega), ups_comm (i := 1130 + e) (j := 100 + 4 * a + s) (by omega), ups_comm (i := 1130 + e) (j := 192 + s) (by omega)]
    have eq : wOq (ups w (1130 + e) v) e s A a = ups (wOq w e s A a) (1130 + e) v := by
      unfold wOq
      rw [eg, hc, ups_ne (i := 1140 + 10 * e + a) (by omega), ups_ne (i := 1080 + e) (by omega), ups_ne (i := 1070 + e) (by omega), wCr_up (hP.fr (fun j hj => wO2_ne (by omega) hs (by omega))) (by omega) hs (by omega)]
    unfold lOp
    rw [eq]
    exact lOp_up he hs k (a + 1) _ (by omega) (hP.fr (fun j hj => wOq_ne (by omega) hs (by omega)))
theorem sAl_up {w : Nat → Int} {s c j : Nat} {v : Int} (hs : s < 4) (hj : 180 ≤ j) : ∀ (k i : Nat) (x : Int), i + k ≤ 10 → sAl (ups w j v) s c k i x = sAl w s c k i x
  | 0, _, _, _ => rfl
  | k + 1, i, x, hi => by
    have e : sUn (ups w j v) c i = sUn w c i := by unfold sUn; rw [ups_ne (by omega), ups_ne (by omega)]
    unfold sAl
    rw [e, ups_ne (by omega)]
    exact sAl_up hs hj k (i + 1) _ (by omega)
theorem sGi_up {A B : Int} {w : Nat → Int} {s c j : Nat} {v : Int} (hs : s < 4) (hj : 180 ≤ j) : ∀ (k i : Nat) (x : Int), i + k ≤ 10 → sGi A B (ups w j v) s c k i x = sGi A B w s c k i x
  | 0, _, _, _ => rfl
  | k + 1, i, x, hi => by
    have e : sUn (ups w j v) c i = sUn w c i := by unfold sUn; rw [ups_ne (by omega), ups_ne (by omega)]
    rw [sGi_s, sGi_s, e, ups_ne (by omega)]
    exact sGi_up hs hj k (i + 1) _ (by omega)
theorem sTo_up {w : Nat → Int} {s nA c j : Nat} {v : Int} (hs : s < 4) (hn : nA ≤ 10) (hc : c < 10) (hj : 180 ≤ j) : sTo (ups w j v) s nA c = sTo w s nA c := by
  unfold sTo; rw [sAl_up hs hj nA 0 _ (by omega), ups_ne (by omega)]
theorem sNh_up {A B : Int} {w : Nat → Int} {s nA a j : Nat} {v : Int} (hs : s < 4) (hn : nA ≤ 10) (ha : a < 10) (hj : 180 ≤ j) : sNh A B (ups w j v) s nA a = sNh A B w s nA a := by
  unfold sNh
  rw [sTo_up hs hn ha hj, sGi_up hs hj nA 0 _ (by omega), ups_ne (by omega), ups_ne (by omega)]
theorem wD_up {A B : Int} {w : Nat → Int} {s nA : Nat} {DH DB : Nat → Bool} {o : Int} {j : Nat} {v : Int} (hs : s < 4) (hn : nA ≤ 10) (hj : 196 ≤ j) : wD A B (ups w j v) s nA DH DB o = ups (wD A B w s nA DH DB o) j v := by
  funext i
  by_cases q : i = j
  · subst q
    rw [ups_same, wD_ne (by omega), ups_same]
  · rw [ups_ne q]
    unfold wD
    by_cases z : 100 ≤ i ∧ i < 140 ∧ (i - 100) % 4 = s ∧ DH ((i - 100) / 4) = true
    · rw [if_pos z, if_pos z, sNh_up hs hn (by omega) (by omega)]
    · rw [if_neg z, if_neg z, ups_ne q]
theorem sOu_up {A B : Int} {w : Nat → Int} {s nA j : Nat} {v : Int} (hs : s < 4) (hn : nA ≤ 10) (hj : 180 ≤ j) : ∀ (k c : Nat) (x : Int), c + k ≤ 10 → sOu A B (ups w j v) s nA k c x = sOu A B w s nA k c x
  | 0, _, _, _ => rfl
  | k + 1, c, x, hc => by
    unfold sOu
    rw [sTo_up hs hn (by omega) hj, ups_ne (by omega)]
    exact sOu_up hs hn hj k (c + 1) _ (by omega)
theorem wSl_up {A B : Int} {w : Nat → Int} {s n j : Nat} {v : Int} (hn : n ≤ 20) (hj : 1050 ≤ j) : wSl A B (ups w j v) s n = ups (wSl A B w s n) j v := by
  funext i
  by_cases q : i = j
  · subst q
    rw [ups_same, wSl_ne (by omega), ups_same]
  · rw [ups_ne q]
    unfold wSl
    rw [ups_ne q]
    by_cases z : 990 ≤ i ∧ i < 990 + n
    · rw [ups_ne (i := 970 + (i - 990)) (by omega)]
    · rw [if_neg (fun y => z ⟨y.1, y.2.1⟩), if_neg (fun y => z ⟨y.1, y.2.1⟩)]
theorem wD_192 {A B : Int} {w : Nat → Int} {s nA : Nat} {o v : Int} (hs : s < 4) (hn : nA ≤ 10) : wD A B (ups w (192 + s) v) s nA (fun _ => false) (fun _ => false) v = ups w (192 + s) v := wD_0 _ _ (fun _ => rfl) (fun _ => rfl) ups_same
