-- the class makes loans
/-- a loan's row -/
def rw' (w : Nat → Int) (l D a s : Nat) (y P : Int) : Nat → Int := ups (ups (ups (ups (ups (ups w (950 + l) (a : Int)) (930 + l) (D : Int)) (970 + l) (s : Int)) (990 + l) y) (1010 + l) (w64 (y * P))) (1030 + l) 0
theorem rw_n {w : Nat → Int} {l D a s : Nat} {y P : Int} (hl : l < 20) {j : Nat} (hj : j < 930 ∨ 1050 ≤ j) : rw' w l D a s y P j = w j := by
  unfold rw'
  rw [ups_ne (by omega), ups_ne (by omega), ups_ne (by omega), ups_ne (by omega), ups_ne (by omega), ups_ne (by omega)]
theorem rw_o {w : Nat → Int} {l D a s : Nat} {y P : Int} (hl : l < 20) {g m : Nat} (hm : m < 20) (hne : m ≠ l) (hg : g = 930 ∨ g = 950 ∨ g = 970 ∨ g = 990 ∨ g = 1010 ∨ g = 1030) : rw' w l D a s y P (g + m) = w (g + m) := by
  unfold rw'
  rw [ups_ne (by omega), ups_ne (by omega), ups_ne (by omega), ups_ne (by omega), ups_ne (by omega), ups_ne (by omega)]
theorem rw_v {w : Nat → Int} {l D a s : Nat} {y P : Int} (hl : l < 20) : rw' w l D a s y P (930 + l) = (D : Int) ∧ rw' w l D a s y P (950 + l) = (a : Int) ∧ rw' w l D a s y P (970 + l) = (s : Int) ∧ rw' w l D a s y P (990 + l) = y ∧ rw' w l D a s y P (1010 + l) = w64 (y * P) ∧ rw' w l D a s y P (1030 + l) = 0 := by
  unfold rw'
  simp (disch := omega) only [ups_ne, ups_same]
  exact ⟨trivial, trivial, trivial, trivial, trivial, trivial⟩
theorem R.lo' {M : xM} {w : Nat → Int} (h : R M w) {l : Nat} (hl : l < 20) (hn : w 1545 ≤ (l : Int)) {v u : Int} : R (xup M (134 + l) 3 v) (ups w (990 + l) u) := h.lo hl (fun x hx hc => by
  rw [ups_ne (by omega)] at hc
  rw [ups_ne (by omega), xup_c (by omega), xup_c (by omega)]; exact h.2.2.1 x hx hc)
theorem SS.row {M : xM} {w T : Nat → Int} (hS : SS M w T) {l : Nat} (hl : l < 20) (hw : w 1545 = (l : Int)) {D a s : Nat} {y P : Int} (hy : 0 ≤ y) : SS (xup (xup (xup (xup (xup (xup M (134 + l) 0 (a : Int)) (134 + l) 1 (D : Int)) (134 + l) 2 (s : Int)) (134 + l) 3 y) (134 + l) 4 (w64 (y * P))) 3 14 ((l : Int) + 1)) (ups (rw' w l D a s y P) 1545 ((l : Int) + 1)) T := by
  obtain ⟨hR, hV, hT⟩ := hS
  have r1 := (((hR.llen_up hl (v := (a : Int))).lbor_up hl (v := (D : Int))).lsec_up hl (v := (s : Int))).lo' hl (v := y) (u := y) (by rw [ups_ne (by omega), ups_ne (by omega), ups_ne (by omega)]; omega)
  have r2 := (r1.lple_up hl (v := w64 (y * P))).lx_dead (l := l) (j := 1030 + l) (v := 0) hl (by rw [ups_ne (by omega), ups_ne (by omega), ups_ne (by omega), ups_ne (by omega), ups_ne (by omega)]; omega) (by omega)
  have v := rw_v (w := w) (D := D) (a := a) (s := s) (y := y) (P := P) hl
  have r3 := R.cntL (w := rw' w l D a s y P) r2 hl (by rw [rw_n hl (by omega)]; exact hw) (by rw [v.1, xup_k (by omega), xup_k (by omega), xup_k (by omega), xup_same]) (by rw [v.2.1, xup_k (by omega), xup_k (by omega), xup_k (by omega), xup_k (by omega), xup_same]) (by rw [v.2.2.1, xup_k (by omega), xup_k (by omega), xup_same]) (by rw [v.2.2.2.2.1, xup_same]) v.2.2.2.2.2 (by rw [v.2.2.2.1, xup_k (by omega), xup_same]) (by rw [v.2.2.2.1]; exact hy) (v := (l : Int) + 1) rfl
  refine ⟨r3, ?_, (((((hT.c (by omega)).c (by omega)).c (by omega)).c (by omega)).c (by omega)).c (by omega)⟩
  refine hV.fr ?_ (fun x hx => ?_) (fun e he => ?_) (fun j _ _ => by rw [ups_ne (by omega), rw_n hl (by omega)]) (fun e he => by rw [ups_ne (by omega), rw_n hl (by omega)]) (fun e he _ => by rw [ups_ne (by omega), rw_n hl (by omega)]) (fun j _ _ => by rw [ups_ne (by omega), rw_n hl (by omega)])
  · rw [xup_k (by omega), xup_c (by omega), xup_c (by omega), xup_c (by omega), xup_c (by omega), xup_c (by omega)]
  · rw [xup_row (by omega), xup_row (by omega), xup_row (by omega), xup_row (by omega), xup_row (by omega), xup_row (by omega)]
  · rw [xup_row (by omega), xup_row (by omega), xup_row (by omega), xup_row (by omega), xup_row (by omega), xup_row (by omega)]
/-- the numbers once those below n have lent -/
def WL (x : Nat → Int) (t : Nat) : Nat → Nat → Int
  | 0 => x
  | n + 1 => if 0 < lnt x t n then wA (ups (rw' (WL x t n) ((x 1545).toNat + mdn x t n) (dl x t) n (pp x t) (lnt x t n) (x (184 + pp x t))) 1545 (((x 1545).toNat + mdn x t n : Nat) + 1)) (dL (dl x t) (pp x t) (x (184 + pp x t)) n (lnt x t n)) else WL x t n
theorem WL_s (x : Nat → Int) (t n : Nat) : WL x t (n + 1) = if 0 < lnt x t n then wA (ups (rw' (WL x t n) ((x 1545).toNat + mdn x t n) (dl x t) n (pp x t) (lnt x t n) (x (184 + pp x t))) 1545 (((x 1545).toNat + mdn x t n : Nat) + 1)) (dL (dl x t) (pp x t) (x (184 + pp x t)) n (lnt x t n)) else WL x t n := rfl
theorem WL_n {x : Nat → Int} {t : Nat} (h : LK x t) : ∀ n, n ≤ 10 → (x 1545).toNat + mdn x t n ≤ 20 → (∀ j, (j < 30 ∨ (50 ≤ j ∧ j < 100) ∨ (140 ≤ j ∧ j < 930) ∨ (1050 ≤ j ∧ j ≠ 1545)) → WL x t n j = x j) ∧ WL x t n 1545 = (((x 1545).toNat + mdn x t n : Nat) : Int) ∧ (CQ x → ∀ j, cel j = true → WL x t n j = wA x (DL x t n) j)
  | 0, _, _ => ⟨fun _ _ => rfl, by have := h.1.1.2.2.2.2.2.1; show x 1545 = _; unfold mdn; omega, fun hq j hj => by
    show x j = wA x (DL x t 0) j
    rw [show wA x (DL x t 0) = x from wA_0 hq (fun j => rfl)]⟩
  | n + 1, hn, hm => by
    have ms := mdn_s x t n
    have ih := WL_n h n (by omega) (by rw [ms] at hm; omega)
    have d1 := h.f.2.2.2.1
    rw [WL_s, ms]
    by_cases z : 0 < lnt x t n
    · rw [if_pos z] at ms
      rw [if_pos z, if_pos z]
      have hl : (x 1545).toNat + mdn x t n < 20 := by omega
      refine ⟨fun j hj => ?_, ?_, fun hq j hj => ?_⟩
      · rw [wA_n (by omega), ups_ne (by omega), rw_n hl (by omega)]; exact ih.1 j hj
      · rw [wA_n (by omega), ups_same]; omega
      · have hj2 : j < 140 := by
          unfold cel at hj
          simp only [Bool.or_eq_true, Bool.and_eq_true, decide_eq_true_eq] at hj; omega
        rw [wA_c hj, ups_ne (by omega), rw_n hl (by omega), ih.2.2 hq j hj, wA_c hj, wA_c hj, w64_add, DL_s, Int.add_assoc]
    · rw [if_neg z, if_neg z, Nat.add_zero]
      refine ⟨ih.1, ih.2.1, fun hq j hj => ?_⟩
      have kl := h.ln (a := n) (by omega)
      rw [ih.2.2 hq j hj, wA_c hj, wA_c hj, DL_s, show lnt x t n = 0 by omega, dL_0, Int.add_zero]
theorem wA_q' {w : Nat → Int} (hq : CQ w) {w' : Nat → Int} (h : ∀ j, cel j = true → w' j = w j) : CQ w' := fun j hj => by rw [h j hj]; exact hq j hj
theorem WL_q {x : Nat → Int} {t : Nat} (h : LK x t) (hq : CQ x) {n : Nat} (hn : n ≤ 10) (hm : (x 1545).toNat + mdn x t n ≤ 20) : CQ (WL x t n) := fun j hj => by
  rw [(WL_n h n hn hm).2.2 hq j hj, wA_c hj]; exact w64_r _
theorem LK.e {x : Nat → Int} {t : Nat} (h : LK x t) {y : Nat → Int} (hy : ∀ j, 140 ≤ j → j < 930 → y j = x j) : TF y t ∧ dl y t = dl x t ∧ rc y t = rc x t ∧ pp y t = pp x t := by
  obtain ⟨a, -, -, b⟩ := h.f.fr (w' := y) (fun j hj => hy j (by omega) (by omega))
  exact ⟨a, b⟩
theorem mk_step {x T : Nat → Int} {t : Nat} (h : LK x t) (hq : CQ x) {M : xM} {n : Nat} (hn : n < 10) (hm : (x 1545).toNat + mdn x t (n + 1) ≤ 20) (hS : SS M (WL x t n) T) (h8 : ∀ i, i < 10 → M 398 i = lnt x t i) : ∃ M', (∀ m, fX2_makeLoans_14 395 (102 + t) (12 + 4 * dl x t) (m + 1) (n : Int) M = fX2_makeLoans_14 395 (102 + t) (12 + 4 * dl x t) m ((n + 1 : Nat) : Int) M') ∧ SS M' (WL x t (n + 1)) T ∧ fz M M' := by
  have ms := mdn_s x t n
  have f := h.f
  obtain ⟨f0, -, -, d1, -, p1, -⟩ := id f
  obtain ⟨w1, w2, w3⟩ := WL_n h n (by omega) (by rw [ms] at hm; omega)
  rw [WL_s]
  by_cases z : 0 < lnt x t n
  · rw [if_pos z] at ms
    rw [if_pos z]
    have hl : (x 1545).toNat + mdn x t n < 20 := by omega
    have lz := h.lz z hn
    have wq := WL_q h hq (n := n) (by omega) (by omega)
    have kl := h.ln hn
    obtain ⟨f1, e1, e2, e3⟩ := h.e (y := WL x t n) (fun j a b => w1 j (by omega))
    have tl : (t : Int) < WL x t n 1543 := by rw [w1 _ (by omega)]; exact h.2.1
    generalize hL : (x 1545).toNat + mdn x t n = L at *
    have hP : WL x t n (184 + pp x t) = x (184 + pp x t) := w1 _ (by omega)
    have pg : PG (WL x t n) := fun e he hne => by
      rw [w1 _ (by omega)] at hne
      rw [w1 _ (by omega)]; exact h.1.pg e he hne
    generalize hy : lnt x t n = y at *
    have S1 := hS.row hl w2 (D := dl x t) (a := n) (s := pp x t) (y := y) (P := x (184 + pp x t)) (by omega)
    have W1n : ∀ j, (j < 930 ∨ (1050 ≤ j ∧ j ≠ 1545)) → ups (rw' (WL x t n) L (dl x t) n (pp x t) y (x (184 + pp x t))) 1545 ((L : Int) + 1) j = WL x t n j := fun j hj => by rw [ups_ne (by omega), rw_n hl (by omega)]
    have W1l : ups (rw' (WL x t n) L (dl x t) n (pp x t) y (x (184 + pp x t))) 1545 ((L : Int) + 1) (1010 + L) = w64 (y * x (184 + pp x t)) ∧ ups (rw' (WL x t n) L (dl x t) n (pp x t) y (x (184 + pp x t))) 1545 ((L : Int) + 1) 1545 = (L : Int) + 1 := ⟨by rw [ups_ne (by omega)]; exact (rw_v hl).2.2.2.2.1, ups_same⟩
    have t3 : ∀ k, (xup (xup (xup (xup (xup (xup M (134 + L) 0 (n : Int)) (134 + L) 1 (dl x t : Int)) (134 + L) 2 (pp x t : Int)) (134 + L) 3 y) (134 + L) 4 (w64 (y * x (184 + pp x t)))) 3 14 ((L : Int) + 1)) (102 + t) k = M (102 + t) k := fun k => by rw [xup_c (by omega), xup_c (by omega), xup_c (by omega), xup_c (by omega), xup_c (by omega), xup_c (by omega)]
    have h83 : (xup (xup (xup (xup (xup (xup M (134 + L) 0 (n : Int)) (134 + L) 1 (dl x t : Int)) (134 + L) 2 (pp x t : Int)) (134 + L) 3 y) (134 + L) 4 (w64 (y * x (184 + pp x t)))) 3 14 ((L : Int) + 1)) 398 n = y := by rw [xup_c (by omega), xup_c (by omega), xup_c (by omega), xup_c (by omega), xup_c (by omega), xup_c (by omega), h8 n hn, hy]
    have z1 : fz M (xup (xup (xup (xup (xup (xup M (134 + L) 0 (n : Int)) (134 + L) 1 (dl x t : Int)) (134 + L) 2 (pp x t : Int)) (134 + L) 3 y) (134 + L) 4 (w64 (y * x (184 + pp x t)))) 3 14 ((L : Int) + 1)) := ((((((fz.refl M).x (by omega)).x (by omega)).x (by omega)).x (by omega)).x (by omega)).x (by omega)
    have c14 : (xup (xup (xup (xup (xup M (134 + L) 0 (n : Int)) (134 + L) 1 (dl x t : Int)) (134 + L) 2 (pp x t : Int)) (134 + L) 3 y) (134 + L) 4 (w64 (y * x (184 + pp x t)))) 3 14 = (L : Int) := by rw [xup_c (by omega), xup_c (by omega), xup_c (by omega), xup_c (by omega), xup_c (by omega), hS.1.nL]; exact w2
    have cw : ∀ N : xM, N (56 + pp x t) = M (56 + pp x t) → fX1_worthOf 3 (pp x t : Int) y N = some (.inl (w64 (y * x (184 + pp x t))), N) := fun N hN => by
      unfold fX1_worthOf
      rw [c_sec (by omega), xb_l, Int.toNat_natCast, hN, hS.1.price p1, hP]; rfl
    generalize hW1 : ups (rw' (WL x t n) L (dl x t) n (pp x t) y (x (184 + pp x t))) 1545 ((L : Int) + 1) = W1 at *
    obtain ⟨M2, b1, b2, b3⟩ := c_mvU S1 (fun e he hne => by
      rw [W1n _ (by omega)] at hne
      rw [W1n _ (by omega)]; exact pg e he hne) hn d1 p1 y
    have un := fun (j : Nat) (hj : j < 100 ∨ 140 ≤ j) => wU_ne (w := W1) (u := y) hn d1 p1 hj
    have S3 := b2.pled d1 (v := w64 (W1 (40 + dl x t) + w64 (y * x (184 + pp x t))))
    have eq := wA_dL (w := W1) (wA_q' wq (fun j hj => by
      unfold cel at hj
      simp only [Bool.or_eq_true, Bool.and_eq_true, decide_eq_true_eq] at hj
      exact W1n j (by omega))) d1 hn p1 (P := x (184 + pp x t)) (y := y) (Or.inl lz.2.1)
    have eU : ups (wU W1 n (dl x t) (pp x t) y) (40 + dl x t) (w64 (W1 (40 + dl x t) + w64 (y * x (184 + pp x t)))) = wA W1 (dL (dl x t) (pp x t) (x (184 + pp x t)) n y) := eq
    rw [eU] at S3
    refine ⟨_, fun m => ?_, S3, (z1.trans b3).x (by omega)⟩
    rw [fX2_makeLoans_14, if_neg (by omega), xix_t (by omega) (by omega), xr_395_3, Int.toNat_natCast, h8 n hn, hy, if_neg (by omega), xr_395_0, hS.1.nL, w2, c_lon (by omega), xb_l, Int.toNat_natCast, xput_b, xup_c (a := 102 + t) (by omega), hS.1.tD tl f1, e1, xput_b, xup_c (a := 102 + t) (by omega), xup_c (a := 102 + t) (by omega), hS.1.tP tl f1, e3, xput_b, xix_t (by omega) (by omega), xup_c (a := 398) (by omega), xup_c (a := 398) (by omega), xup_c (a := 398) (by omega), h8 n hn, hy, xput_b, xix_t (by omega) (by omega), xup_c (a := 398) (by omega), xup_c (a := 398) (by omega), xup_c (a := 398) (by omega), xup_c (a := 398) (by omega), h8 n hn, hy, xup_c (a := 102 + t) (by omega), xup_c (a := 102 + t) (by omega), xup_c (a := 102 + t) (by omega), xup_c (a := 102 + t) (by omega), hS.1.tP tl f1, e3, cw _ (by rw [xup_row (by omega), xup_row (by omega), xup_row (by omega), xup_row (by omega)]), xb_l, xput_b, c14, w32_i (by omega) (by omega), xput_b, xix_t (by omega) (by omega), h83, t3, t3, hS.1.tD tl f1, hS.1.tP tl f1, e1, e3, b1, xb_l, b2.1.pled d1, un _ (by omega), b2.1.lple hl (by rw [un _ (by omega), W1l.2]; omega), un _ (by omega), W1l.1, xput_b]
    unfold fX2_makeLoans_156
    rw [w32_s (by omega)]
  · rw [if_neg z]
    refine ⟨M, fun m => ?_, hS, fz.refl M⟩
    rw [fX2_makeLoans_14, if_neg (by omega), xix_t (by omega) (by omega), xr_395_3, Int.toNat_natCast, h8 n hn, if_pos (by omega)]
    unfold fX2_makeLoans_156
    rw [w32_s (by omega)]
