-- a split: the model's outer loop, loans, trades
theorem dS_0 {w : Nat → Int} : dS w 0 0 = fun _ => false := by funext a; exact dS_z a
theorem dB_0 : dBl 0 = fun _ => false := by funext a; unfold dBl; rw [decide_eq_false (show ¬ a < 0 by omega), Bool.and_false]
theorem m_spo {M : xM} {w T : Nat → Int} {h : Int} {e s nA : Nat} {A B : Int} (hF : SF w e s nA A B) : ∀ (k c n : Nat) (o : Int), c + k = nA → k < n → fX12_split_49 400 (s : Int) A B n (c : Int) (st M (wD A B w s nA (dS w c 0) (dBl c) o) T h) = fX12_split_362 400 (s : Int) A B xN 0 (st M (wD A B w s nA (dBl nA) (dBl nA) (sOu A B w s nA k c o)) T h)
  | _, _, 0, _, _, hn => absurd hn (Nat.not_lt_zero _)
  | 0, c, n + 1, o, hc, _ => by
    obtain ⟨he, hs, hP, h40, hes, hA, hB, hB1, h4, hrr⟩ := id hF
    have ecn : c = nA := by omega
    subst ecn
    have h0 := hP.1
    rw [fX12_split_49, xr_400_0, st_401, wD_ne (by omega), if_pos (by omega), dS_e hP]; rfl
  | k + 1, c, n + 1, o, hc, hn => by
    obtain ⟨he, hs, hP, h40, hes, hA, hB, hB1, h4, hrr⟩ := id hF
    have h0 := hP.1
    have hc4 : c < 10 := by omega
    have hb := (hP.2 c hc4).1
    have ih := fun o => m_spo (M := M) (T := T) (h := h) hF k (c + 1) n o (by omega) (by omega)
    have e1 : ∀ x, sOu A B w s nA (k + 1) c x = sOu A B w s nA k (c + 1) (if w (10 + c) = 1 then x else w64 (x + sSp A B (sTo w s nA c))) := fun x => rfl
    rw [fX12_split_49, xr_400_0, st_401, wD_ne (by omega), if_neg (by omega), e1]
    simp (disch := omega) only [w32_i, xix_t, tn_add, tn_4, Int.toNat_natCast, Int.reduceToNat, xlet_b]
    rw [wD_ne (by omega)]
    rcases hb with hz | hz
    · have eh : wD A B w s nA (dS w c 0) (dBl c) o (100 + 4 * c + s) = w (100 + 4 * c + s) := by rw [wD_h hc4 hs hs, if_neg (by rw [dS_g hz]; exact fun z => absurd z.2 (by decide))]
      have q := m_spi (M := M) (T := T) (h := h) hF (fX12_split_49 400 (s : Int) A B n) (c := c) (by omega) hz o nA 0 xN (w (100 + 4 * c + s)) 0 (by omega) (by unfold xN; omega) (hrr c hc4) (by decide) rfl rfl
      rw [if_pos hz, if_neg (by omega), eh, ← ih]
      exact q
    · rw [if_neg (by omega), if_pos hz, m_sp318 hF _ (by omega), ← ih, (dS_n hP (by omega)).2 hz]
-- loans
def wSl (A B : Int) (w : Nat → Int) (s n : Nat) : Nat → Int := fun j => if 990 ≤ j ∧ j < 990 + n ∧ w (970 + (j - 990)) = (s : Int) ∧ 0 ≤ w j then sSp A B (w j) else w j
theorem wSl_ne {A B : Int} {w : Nat → Int} {s n j : Nat} (h : j < 990 ∨ 990 + n ≤ j) : wSl A B w s n j = w j := by unfold wSl; rw [if_neg (by omega)]
theorem wSl_0 {A B : Int} {w : Nat → Int} {s : Nat} : wSl A B w s 0 = w := by funext j; exact wSl_ne (by omega)
theorem wSl_v {A B : Int} {w : Nat → Int} {s n l : Nat} (hl : l < n) : wSl A B w s n (990 + l) = if w (970 + l) = (s : Int) ∧ 0 ≤ w (990 + l) then sSp A B (w (990 + l)) else w (990 + l) := by
  unfold wSl
  rw [show 990 + l - 990 = l by omega]
  by_cases z : w (970 + l) = (s : Int) ∧ 0 ≤ w (990 + l)
  · rw [if_pos ⟨by omega, by omega, z⟩, if_pos z]
  · rw [if_neg (fun y => z y.2.2), if_neg z]
theorem wSl_s {A B : Int} {w : Nat → Int} {s n : Nat} {v : Int} (hv : v = if w (970 + n) = (s : Int) ∧ 0 ≤ w (990 + n) then sSp A B (w (990 + n)) else w (990 + n)) : ups (wSl A B w s n) (990 + n) v = wSl A B w s (n + 1) := by
  funext j
  unfold ups
  by_cases q : j = 990 + n
  · rw [if_pos q, q, wSl_v (by omega), hv]
  · rw [if_neg q]
    unfold wSl
    by_cases z : 990 ≤ j ∧ j < 990 + n ∧ w (970 + (j - 990)) = (s : Int) ∧ 0 ≤ w j
    · rw [if_pos z, if_pos ⟨z.1, by omega, z.2.2⟩]
    · rw [if_neg z, if_neg (fun y => z ⟨y.1, by omega, y.2.2⟩)]
theorem f_mpd990 : ∀ l : Nat, l < 20 → mpd (990 + l) = false := by decide +kernel
theorem R.lo {M : xM} {w : Nat → Int} (h : R M w) {l : Nat} (hl : l < 20) {v u : Int} (hr : RLo (xup M (134 + l) 3 v) (ups w (990 + l) u)) : R (xup M (134 + l) 3 v) (ups w (990 + l) u) :=
  ⟨(h.1.cls (by rw [(jcL_n l hl).1]; omega)).mdl (Or.inl (f_mpd990 l hl)) (by omega) (by omega) (by omega) (by omega), h.2.1.fr (fun c k q => xup_c (fun z => by subst z; simp [tcT] at q; omega)) (fun j q => ups_ne (fun z => by subst z; simp [tjT] at q; omega)), hr, h.2.2.2.fr (fun t q => xup_c (by omega)) (fun l q q2 => ⟨xup_ne (by omega), xup_ne (by omega)⟩) (fun i q q2 => xup_c (by omega)) (Int.le_of_eq (ups_ne (by omega)).symm) (Int.le_of_eq (ups_ne (by omega)).symm)⟩
theorem frc_l3 {M : xM} {w : Nat → Int} (h : MV M w) {l : Nat} (hl : l < 20) {v u : Int} : MV (xup M (134 + l) 3 v) (ups w (990 + l) u) := h.up (by omega) (by omega) (by omega) (by omega) (by omega) (by omega) (by omega)
theorem c_sl {w T : Nat → Int} {e s : Nat} {A B : Int} (he : e < 10) (hes : w (1060 + e) = (s : Int)) (hA : w (1070 + e) = A) (hB : w (1080 + e) = B) (hAp : 1 ≤ A ∧ A ≤ 3) (hB1 : 1 ≤ B) (hC : IC w) (hU : ∀ l : Nat, l < 20 → (l : Int) < w 1545 → w (990 + l) ≤ 1000000000000) : ∀ (k l n : Nat) (M : xM), (l : Int) + k = w 1545 → k < n → SS M (wSl A B w s l) T → ∃ M', fX3_splitLoans_2 399 (155 + 4 * e) n (l : Int) M = some (.inl 0, M') ∧ SS M' (wSl A B w s (l + k)) T ∧ fz M M'
  | _, _, 0, _, _, hn, _ => absurd hn (Nat.not_lt_zero _)
  | 0, l, n + 1, M, hl, _, hS => by
    have c5 := hC.2.2.2.2.2.1
    refine ⟨M, ?_, hS, fz.refl M⟩
    rw [fX3_splitLoans_2, xr_399_0, if_pos (by rw [hS.1.nL, wSl_ne (by omega)]; omega)]; rfl
  | k + 1, l, n + 1, M, hl, hn, hS => by
    have c5 := hC.2.2.2.2.2.1
    have hl4 : l < 20 := by omega
    have hlv : (l : Int) < wSl A B w s l 1545 := by rw [wSl_ne (by omega)]; omega
    have e9 : wSl A B w s l (990 + l) = w (990 + l) := wSl_ne (by omega)
    rw [fX3_splitLoans_2, xr_399_0, if_neg (by rw [hS.1.nL, wSl_ne (by omega)]; omega), c_lon (by omega), xb_l, Int.toNat_natCast, hS.1.lsec hl4 hlv, wSl_ne (j := 970 + l) (by omega), hS.1.esec he, wSl_ne (j := 1060 + e) (by omega), hes]
    unfold fX3_splitLoans_45
    rw [w32_s (by omega), show l + (k + 1) = l + 1 + k by omega]
    by_cases q : w (970 + l) = (s : Int)
    · rw [if_pos q, c_spl hS.1 he (by rw [wSl_ne (by omega), hB]; exact hB1), xb_l, wSl_ne (j := 1070 + e) (by omega), wSl_ne (j := 1080 + e) (by omega), hA, hB, xput_b]
      have key : ∀ u : Int, RLo (xup M (134 + l) 3 (sSp A B (M (134 + l) 3))) (ups (wSl A B w s l) (990 + l) u) → u = (if w (970 + l) = (s : Int) ∧ 0 ≤ w (990 + l) then sSp A B (w (990 + l)) else w (990 + l)) → ∃ M', fX3_splitLoans_2 399 (155 + 4 * e) n ((l + 1 : Nat) : Int) (xup M (134 + l) 3 (sSp A B (M (134 + l) 3))) = some (.inl 0, M') ∧ SS M' (wSl A B w s (l + 1 + k)) T ∧ fz M M' := fun u hr hu => by
        have r := hS.1.lo hl4 hr
        have v := frc_l3 hS.2.1 hl4 (v := sSp A B (M (134 + l) 3)) (u := u)
        rw [wSl_s hu] at r v
        obtain ⟨M2, b1, b2, b3⟩ := c_sl he hes hA hB hAp hB1 hC hU k (l + 1) n _ (by omega) (by omega) ⟨r, v, hS.2.2.c (by omega)⟩
        exact ⟨M2, b1, b2, ((fz.refl M).x (by omega)).trans b3⟩
      rcases hS.1.2.2.1 l hl4 hlv with ⟨q1, q2, q3⟩ | ⟨q1, q2⟩
      · rw [e9] at q2 q3
        refine key (sSp A B (w (990 + l))) (fun x hx hc => ?_) (by rw [if_pos ⟨q, q3⟩])
        rw [ups_ne (by omega)] at hc
        by_cases y : x = l
        · subst y
          refine Or.inl ⟨by rw [xup_k (by omega)]; exact q1, by rw [xup_same, ups_same, q2], ?_⟩
          rw [ups_same]
          unfold sSp
          have u9 := hU x hl4 (by omega)
          have m0 : 0 ≤ w (990 + x) * A := Int.mul_nonneg q3 (by omega)
          have m1 : w (990 + x) * A ≤ 1000000000000 * 3 := Int.mul_le_mul u9 hAp.2 (by omega) (by omega)
          rw [w64_i (by omega) (by omega), Int.tdiv_eq_ediv_of_nonneg m0]
          exact Int.ediv_nonneg m0 (by omega)
        · rw [xup_c (by omega), xup_c (by omega), ups_ne (by omega)]
          exact hS.1.2.2.1 x hx hc
      · rw [e9] at q2
        refine key (-1) (fun x hx hc => ?_) (by rw [if_neg (by omega), q2])
        rw [ups_ne (by omega)] at hc
        by_cases y : x = l
        · subst y
          exact Or.inr ⟨by rw [xup_k (by omega)]; exact q1, ups_same⟩
        · rw [xup_c (by omega), xup_c (by omega), ups_ne (by omega)]
          exact hS.1.2.2.1 x hx hc
    · rw [if_neg q]
      have e2 : wSl A B w s l = wSl A B w s (l + 1) := by
        rw [← wSl_s (A := A) (B := B) (w := w) (s := s) (n := l) (v := w (990 + l)) (by rw [if_neg (fun y => q y.1)]), ups_id e9]
      rw [e2] at hS
      exact c_sl he hes hA hB hAp hB1 hC hU k (l + 1) n M (by omega) (by omega) hS
theorem m_sl {M : xM} {w T : Nat → Int} {h : Int} {s : Nat} {A B : Int} (hB1 : 1 ≤ B) (hC : IC w) : ∀ (k l n : Nat), (l : Int) + k = w 1545 → k < n → fX12_split_362 400 (s : Int) A B n (l : Int) (st M (wSl A B w s l) T h) = fX12_split_460 400 (s : Int) A B xN 0 (st M (wSl A B w s (l + k)) T h)
  | _, _, 0, _, hn => absurd hn (Nat.not_lt_zero _)
  | 0, l, n + 1, hl, _ => by
    have c5 := hC.2.2.2.2.2.1
    rw [fX12_split_362, xr_400_0, st_401, wSl_ne (by omega), if_pos (by omega)]; rfl
  | k + 1, l, n + 1, hl, hn => by
    have c5 := hC.2.2.2.2.2.1
    have hl4 : l < 20 := by omega
    have ih := m_sl (M := M) (T := T) (h := h) (A := A) (s := s) hB1 hC k (l + 1) n (by omega) (by omega)
    have e9 : wSl A B w s l (990 + l) = w (990 + l) := wSl_ne (by omega)
    rw [fX12_split_362, xr_400_0, st_401, wSl_ne (by omega), if_neg (by omega)]
    unfold fX12_split_439 fX12_split_450
    simp (disch := omega) only [xnz_t]
    simp (disch := omega) only [w32_i, xix_t, xr_400_0, tn_add, Int.toNat_natCast, Int.reduceToNat, xput_b, st_w, st_401, e9]
    rw [wSl_ne (j := 970 + l) (by omega), show (l : Int) + 1 = ((l + 1 : Nat) : Int) by omega, show l + (k + 1) = l + 1 + k by omega, ← ih]
    by_cases q : w (970 + l) = (s : Int)
    · rw [if_pos q]
      by_cases z : w (990 + l) < 0
      · rw [if_pos z, wSl_s (by rw [if_neg (by omega)])]
      · rw [if_neg z, wSl_s (by rw [if_pos ⟨q, by omega⟩]; rfl)]
    · rw [if_neg q, wSl_s (by rw [if_neg (fun y => q y.1)])]
-- trades
def wS1 (A B : Int) (w : Nat → Int) (t : Nat) : Nat → Int := ups (ups w (770 + t) (sSp A B (w (770 + t)))) (830 + t) (sSp A B (w (830 + t)))
def gSt (w : Nat → Int) (s t : Nat) : Bool := decide (w (870 + t) = 0) && decide (pp w t = s)
def wSt (A B : Int) (s : Nat) (w : Nat → Int) (t : Nat) : Nat → Int := if gSt w s t then (if sSp A B (w (770 + t)) = 0 then wOv (wS1 A B w t) t 2 else wS1 A B w t) else w
def tSt (A B : Int) (s : Nat) (w T : Nat → Int) (t : Nat) : Nat → Int := if gSt w s t && decide (sSp A B (w (770 + t)) = 0) then sTb w T t else T
def lSt (A B : Int) (s : Nat) : Nat → Nat → (Nat → Int) → (Nat → Int) → (Nat → Int) × (Nat → Int)
  | 0, _, w, T => (w, T)
  | k + 1, t, w, T => lSt A B s k (t + 1) (wSt A B s w t) (tSt A B s w T t)
theorem wS1_ne {A B : Int} {w : Nat → Int} {t j : Nat} (h1 : j ≠ 770 + t) (h2 : j ≠ 830 + t) : wS1 A B w t j = w j := by unfold wS1; rw [ups_ne h2, ups_ne h1]
theorem wS1_d {A B : Int} {w : Nat → Int} {t : Nat} (f : TF w t) : TF (wS1 A B w t) t ∧ di (wS1 A B w t) t = di w t ∧ ri (wS1 A B w t) t = ri w t ∧ dl (wS1 A B w t) t = dl w t ∧ rc (wS1 A B w t) t = rc w t ∧ pp (wS1 A B w t) t = pp w t := f.fr (fun j hj => wS1_ne (by omega) (by omega))
theorem wSt_ne {A B : Int} {s : Nat} {w : Nat → Int} (hC : IC w) {t : Nat} (f : TF w t) {j : Nat} (hj : j < 570 ∨ (610 ≤ j ∧ j < 770) ∨ (790 ≤ j ∧ j < 830) ∨ (850 ≤ j ∧ j < 870) ∨ (920 ≤ j ∧ j ≠ 1544) ∨ (770 ≤ j ∧ j < 790 ∧ j ≠ 770 + t) ∨ (830 ≤ j ∧ j < 850 ∧ j ≠ 830 + t)) : wSt A B s w t j = w j := by
  have f0 := f.1
  have g := wS1_d (A := A) (B := B) f
  have hC1 : IC (wS1 A B w t) := hC.fr (fun j _ _ => wS1_ne (by omega) (by omega))
  unfold wSt
  split
  · split
    · rw [wOv_n hC1 (by omega) (by omega) (by omega) (by omega) g.1.2.1 g.1.2.2.1, wS1_ne (by omega) (by omega)]
    · exact wS1_ne (by omega) (by omega)
  · rfl
theorem c_st {w T : Nat → Int} {M : xM} {e s t : Nat} {A B : Int} (he : e < 10) (hes : w (1060 + e) = (s : Int)) (hA : w (1070 + e) = A) (hB : w (1080 + e) = B) (hB1 : 1 ≤ B) (hL : LT w) (hS : SS M w T) (ht : (t : Int) < w 1543) (rc' : Int → xM → xO) : ∃ M', (if (M (102 + t) 12) = 1 then (if (M (102 + t) 5) = (M (155 + 4 * e) 1) then xb (fX4_splitOf (155 + 4 * e) (M (102 + t) 6) M) (fun z3 M4 => xput (102 + t) 6 z3 M4 (fun M5 => xb (fX4_splitOf (155 + 4 * e) (M5 (102 + t) 8) M5) (fun z6 M7 => xput (102 + t) 8 z6 M7 (fun M8 => (if (M8 (102 + t) 6) = 0 then xb (fX1_cancelTrade 3 (102 + t) M8) (fun z9 M10 => (fX3_splitTrades_82 rc' 399 (155 + 4 * e) (t : Int) M10)) else (fX3_splitTrades_82 rc' 399 (155 + 4 * e) (t : Int) M8)))))) else (fX3_splitTrades_82 rc' 399 (155 + 4 * e) (t : Int) M)) else (fX3_splitTrades_82 rc' 399 (155 + 4 * e) (t : Int) M)) = fX3_splitTrades_82 rc' 399 (155 + 4 * e) (t : Int) M' ∧ SS M' (wSt A B s w t) (tSt A B s w T t) ∧ fz M M' := by
  have f := hL.2 t ht
  have f0 := f.1
  obtain ⟨hR, hV, hT⟩ := id hS
  have g := wS1_d (A := A) (B := B) f
  unfold wSt tSt gSt
  rw [hR.tst f0, hR.tP ht f, hR.esec he, hes]
  by_cases q1 : w (870 + t) = 0
  · rw [if_pos (by omega), decide_eq_true q1, Bool.true_and]
    by_cases q2 : pp w t = s
    · rw [if_pos (by omega), decide_eq_true q2, Bool.true_and, if_t, hR.tun f0, c_spl hR he (by rw [hB]; exact hB1), xb_l, hA, hB, xput_b, xup_k (by omega), hR.tlea f0]
      have r1 := hR.tun_up f0 (v := sSp A B (w (770 + t)))
      have r2 : R (xup (xup M (102 + t) 6 (sSp A B (w (770 + t)))) (102 + t) 8 (sSp A B (w (830 + t)))) (wS1 A B w t) := r1.tlea_up f0
      have v2 : MV (xup (xup M (102 + t) 6 (sSp A B (w (770 + t)))) (102 + t) 8 (sSp A B (w (830 + t)))) (wS1 A B w t) := (hV.up (c := 102 + t) (k := 6) (v := sSp A B (w (770 + t))) (j := 770 + t) (u := sSp A B (w (770 + t))) (by omega) (by omega) (by omega) (by omega) (by omega) (by omega) (by omega)).up (by omega) (by omega) (by omega) (by omega) (by omega) (by omega) (by omega)
      have sp2 := c_spl r1 he (x := w (830 + t)) (by rw [ups_ne (by omega), hB]; exact hB1)
      rw [ups_ne (i := 1070 + e) (by omega), ups_ne (i := 1080 + e) (by omega), hA, hB] at sp2
      rw [sp2, xb_l, xput_b, xup_k (by omega), xup_same]
      have t2 : told (xup (xup M (102 + t) 6 (sSp A B (w (770 + t)))) (102 + t) 8 (sSp A B (w (830 + t)))) T := (hT.c (by omega)).c (by omega)
      have z2 : fz M (xup (xup M (102 + t) 6 (sSp A B (w (770 + t)))) (102 + t) 8 (sSp A B (w (830 + t)))) := ((fz.refl M).x (by omega)).x (by omega)
      generalize xup (xup M (102 + t) 6 (sSp A B (w (770 + t)))) (102 + t) 8 (sSp A B (w (830 + t))) = X at *
      by_cases q3 : sSp A B (w (770 + t)) = 0
      · have hC1 : IC (wS1 A B w t) := hL.1.fr (fun j _ _ => wS1_ne (by omega) (by omega))
        obtain ⟨M2, a1, a2, a3, a4⟩ := c_ct r2 t2 hC1 g.1 (by rw [wS1_ne (by omega) (by omega)]; exact ht)
        have eT : sTb (wS1 A B w t) T t = sTb w T t := by unfold sTb; rw [g.2.2.2.1, g.2.2.2.2.1]
        have ow := fun (j : Nat) (hj : j < 570 ∨ (610 ≤ j ∧ j < 870) ∨ (920 ≤ j ∧ j ≠ 1544)) => wOv_n (w := wS1 A B w t) (how := 2) hC1 (t := t) (j := j) (by omega) (by omega) (by omega) (by omega) g.1.2.1 g.1.2.2.1
        rw [if_pos q3, if_pos q3, decide_eq_true q3, if_t, a1, xb_l]
        exact ⟨M2, rfl, ⟨a2, v2.fr (a4 3 17 (by omega) (by omega) (by omega)) (fun x hx => by funext y; exact a4 _ y (by omega) (by omega) (by omega)) (fun x hx => a4 _ 9 (by omega) (by omega) (by omega)) (fun j _ _ => ow j (by omega)) (fun x _ => ow _ (by omega)) (fun x _ _ => ow _ (by omega)) (fun j _ _ => ow j (by omega)), by rw [← eT]; exact a3⟩, z2.trans (fun c hc => by funext k; exact a4 c k (by omega) (by omega) (by omega))⟩
      · rw [if_neg q3, if_neg q3, decide_eq_false q3, if_f]
        exact ⟨X, rfl, ⟨r2, v2, t2⟩, z2⟩
    · rw [if_neg (by omega), decide_eq_false q2, Bool.false_and, if_f, if_f]
      exact ⟨M, rfl, hS, fz.refl M⟩
  · rw [if_neg (by omega), decide_eq_false q1, Bool.false_and, Bool.false_and, if_f, if_f]
    exact ⟨M, rfl, hS, fz.refl M⟩
theorem m_st {w T : Nat → Int} {M : xM} {h : Int} {s t : Nat} {A B : Int} (hB1 : 1 ≤ B) (hL : LT w) (ht : (t : Int) < w 1543) (n : Nat) : fX12_split_460 400 (s : Int) A B (n + 1) (t : Int) (st M w T h) = fX12_split_460 400 (s : Int) A B n ((t + 1 : Nat) : Int) (st M (wSt A B s w t) (tSt A B s w T t) h) := by
  have f := hL.2 t ht
  have f0 := f.1
  have g := wS1_d (A := A) (B := B) f
  unfold wSt tSt gSt
  rw [fX12_split_460, xr_400_0, st_401, if_neg (by omega), m_pp (M := st M w T h) f, xb_l, st_401]
  unfold fX12_split_578
  simp (disch := omega) only [xnz_t]
  simp (disch := omega) only [w32_i, xix_t, tn_add, Int.toNat_natCast, Int.reduceToNat, xput_b, st_w, st_401, ups_ne, ups_same]
  rw [show (t : Int) + 1 = ((t + 1 : Nat) : Int) by omega, show ups (ups w (770 + t) (Int.tdiv (w64 (w (770 + t) * A)) B)) (830 + t) (Int.tdiv (w64 (w (830 + t) * A)) B) = wS1 A B w t from rfl, show Int.tdiv (w64 (w (770 + t) * A)) B = sSp A B (w (770 + t)) from rfl]
  by_cases q1 : w (870 + t) = 0
  · rw [if_pos q1, decide_eq_true q1, Bool.true_and]
    by_cases q2 : pp w t = s
    · rw [if_pos (by omega), decide_eq_true q2, Bool.true_and, if_t]
      by_cases q3 : sSp A B (w (770 + t)) = 0
      · have hC1 : IC (wS1 A B w t) := hL.1.fr (fun j _ _ => wS1_ne (by omega) (by omega))
        have eT : sTb (wS1 A B w t) T t = sTb w T t := by unfold sTb; rw [g.2.2.2.1, g.2.2.2.2.1]
        rw [if_pos q3, if_pos q3, decide_eq_true q3, if_t, m_over hC1 g.1 (Or.inr rfl), xb_l, eT]
      · rw [if_neg q3, if_neg q3, decide_eq_false q3, if_f]
    · rw [if_neg (by omega), decide_eq_false q2, Bool.false_and, if_f, if_f]
  · rw [if_neg q1, decide_eq_false q1, Bool.false_and, Bool.false_and, if_f, if_f]
