-- what loans keep
theorem dr_t {n j : Nat} (h : dr n j = true) : 930 ≤ j ∧ j < 1050 ∧ n ≤ (j - 930) % 20 := by
  unfold dr at h
  simp only [Bool.and_eq_true, decide_eq_true_eq] at h; exact h
theorem DR.o {x w : Nat → Int} (h : DR x w) {j : Nat} (hj : j < 930 ∨ 1050 ≤ j) : w j = x j := h j (dr_f (by omega))
theorem DR.l {x w : Nat → Int} (h : DR x w) {g l : Nat} (hl : (l : Int) < x 1545) (h20 : l < 20) (hg : g = 930 ∨ g = 950 ∨ g = 970 ∨ g = 990 ∨ g = 1010 ∨ g = 1030) : w (g + l) = x (g + l) := h _ (dr_f (by omega))
theorem R.dr' {M : xM} {w w' : Nat → Int} (h : R M w) (hc : 0 ≤ w 1545) (d : DR w w') : R M w' := by
  refine ⟨fun i hi hl => ?_, h.2.1.fr (fun _ _ _ => rfl) (fun j q => d.o (by simp [tjT] at q; omega)), fun l hl hc2 => ?_, h.2.2.2.fr (fun _ _ => rfl) (fun _ _ _ => ⟨rfl, rfl⟩) (fun _ _ _ => rfl) (Int.le_of_eq (d.o (by omega)).symm) (Int.le_of_eq (d.o (by omega)).symm)⟩
  · rw [live_eq (w := w) (d.o (by omega)) (d.o (by omega)) (d.o (by omega)) (d.o (by omega))] at hl
    cases q : dr (w 1545).toNat i
    · rw [d i q]; exact h.1 i hi hl
    · have k := dr_t q
      obtain ⟨-, -, -, -, -, l1, l2, l3, l4, l5⟩ := hl
      by_cases z : 990 ≤ i ∧ i < 1010
      · have := f_mpd990 (i - 990) (by omega)
        rw [show 990 + (i - 990) = i by omega, hi] at this; cases this
      · by_cases a1 : i < 950
        · have := l1 (by omega) (by omega); omega
        · by_cases a2 : i < 970
          · have := l2 (by omega) (by omega); omega
          · by_cases a3 : i < 990
            · have := l3 (by omega) (by omega); omega
            · by_cases a4 : i < 1030
              · have := l4 (by omega) (by omega); omega
              · have := l5 (by omega) (by omega); omega
  · rw [d.o (j := 1545) (by omega)] at hc2
    rw [d.l hc2 hl (by omega)]; exact h.2.2.1 l hl hc2
theorem SS.dr {M : xM} {w w' T : Nat → Int} (h : SS M w T) (hc : 0 ≤ w 1545) (d : DR w w') : SS M w' T := ⟨h.1.dr' hc d, h.2.1.fr rfl (fun _ _ => rfl) (fun _ _ => rfl) (fun j _ _ => d.o (by omega)) (fun e _ => d.o (by omega)) (fun e _ _ => d.o (by omega)) (fun j _ _ => d.o (by omega)), h.2.2⟩
theorem Inv0.dr' {w w' : Nat → Int} (h : Inv0 w) (d : DR w w') : Inv0 w' := by
  obtain ⟨hC, hA, hS, hH, hI, hT, hK, hL, hE⟩ := h
  refine ⟨hC.fr (fun j _ _ => d.o (by omega)), hA.fr hC (fun j _ => d.o (by omega)), hS.fr (fun j _ => d.o (by omega)), hH.fr (fun j _ => d.o (by omega)), hI.fr hC (fun j _ => d.o (by omega)), hT.fr hC (fun j _ => d.o (by omega)), hK.fr (fun j _ => d.o (by omega)), fun l hl hc => ?_, hE.fr (fun j _ => d.o (by omega))⟩
  have kq : KQ w' = KQ w := KQ_eq (fun e he => d.o (by omega))
  rw [d.o (j := 1545) (by omega)] at hc
  rw [kq, d.l hc hl (by omega), d.l hc hl (by omega), d.l hc hl (by omega), d.l hc hl (by omega), d.l hc hl (by omega), d.l hc hl (by omega), d.o (by omega), d.o (by omega)]
  exact hL l hl hc
/-- one more loan -/
theorem Inv0.lrw {w : Nat → Int} (h : Inv0 w) {l : Nat} (hl : l < 20) (hw : w 1545 = (l : Int)) {D a s : Nat} {y P : Int} (hD : (D : Int) < w 1540) (ha : (a : Int) < w 1540) (hs : (s : Int) < w 1541) (hy : 0 ≤ y ∧ y ≤ KQ w) (hp : 0 ≤ y * P ∧ y * P ≤ 60000000000000) : Inv0 (ups (rw' w l D a s y P) 1545 ((l : Int) + 1)) := by
  obtain ⟨hC, hA, hS, hH, hI, hT, hK, hL, hE⟩ := h
  have ne : ∀ j, (j < 930 ∨ (1050 ≤ j ∧ j ≠ 1545)) → ups (rw' w l D a s y P) 1545 ((l : Int) + 1) j = w j := fun j hj => by rw [ups_ne (by omega), rw_n hl (by omega)]
  refine ⟨?_, hA.fr hC (fun j _ => ne j (by omega)), hS.fr (fun j _ => ne j (by omega)), hH.fr (fun j _ => ne j (by omega)), hI.fr hC (fun j _ => ne j (by omega)), hT.fr hC (fun j _ => ne j (by omega)), hK.fr (fun j _ => ne j (by omega)), fun u hu hc => ?_, hE.fr (fun j _ => ne j (by omega))⟩
  · unfold IC
    rw [ne 1540 (by omega), ne 1541 (by omega), ne 1542 (by omega), ne 1543 (by omega), ne 1544 (by omega), ups_same, ne 1546 (by omega), ne 1547 (by omega)]
    exact ⟨hC.1, hC.2.1, hC.2.2.1, hC.2.2.2.1, hC.2.2.2.2.1, by omega, hC.2.2.2.2.2.2.1, hC.2.2.2.2.2.2.2⟩
  · have kq : KQ (ups (rw' w l D a s y P) 1545 ((l : Int) + 1)) = KQ w := KQ_eq (fun e he => ne _ (by omega))
    rw [ups_same] at hc
    rw [kq, ne 1540 (by omega), ne 1541 (by omega), ups_ne (by omega), ups_ne (by omega), ups_ne (by omega), ups_ne (by omega), ups_ne (by omega), ups_ne (by omega)]
    by_cases z : u = l
    · have v := rw_v (w := w) (D := D) (a := a) (s := s) (y := y) (P := P) hl
      rw [z, v.1, v.2.1, v.2.2.1, v.2.2.2.1, v.2.2.2.2.1, v.2.2.2.2.2, w64_i (x := y * P) (by omega) (by omega)]
      exact ⟨by omega, by omega, by omega, by omega, by omega, Or.inl rfl⟩
    · rw [rw_o hl hu z (by omega), rw_o hl hu z (by omega), rw_o hl hu z (by omega), rw_o hl hu z (by omega), rw_o hl hu z (by omega), rw_o hl hu z (by omega)]
      exact hL u hu (by omega)
theorem DL_D {x : Nat → Int} {t : Nat} (h : LK x t) : ∀ n, n ≤ 10 → DL x t n (100 + 4 * dl x t + pp x t) = rm x t 0 - rm x t n ∧ DL x t n (40 + dl x t) = (rm x t 0 - rm x t n) * x (184 + pp x t) ∧ (∀ j, 30 ≤ j → j < 50 → j ≠ 40 + dl x t → DL x t n j = 0) ∧ ∀ a, n ≤ a → a < 10 → a ≠ dl x t → DL x t n (100 + 4 * a + pp x t) = 0
  | 0, _ => ⟨by show (0 : Int) = _; omega, by
    rw [Int.sub_self, Int.zero_mul]; rfl, fun _ _ _ _ => rfl, fun _ _ _ _ => rfl⟩
  | n + 1, hn => by
    obtain ⟨i1, i2, i3, i4⟩ := DL_D h n (by omega)
    have p1 := h.f.2.2.2.2.2.1
    have d1 := h.f.2.2.2.1
    have kl := h.ln (a := n) (by omega)
    have lz := fun (z : 0 < lnt x t n) => h.lz z (by omega)
    refine ⟨?_, ?_, fun j h1 h2 h3 => ?_, fun a h1 h2 h3 => ?_⟩
    · rw [DL_s, i1, rm_s]
      unfold dL
      rw [if_pos rfl, if_neg (c := 100 + 4 * dl x t + pp x t = 40 + dl x t) (by omega)]
      by_cases z : n = dl x t
      · have : lnt x t n = 0 := by
          by_cases y : 0 < lnt x t n
          · exact absurd z (lz y).2.1
          · omega
        rw [this, if_pos (by omega)]; omega
      · rw [if_neg (by omega)]; omega
    · rw [DL_s, i2, rm_s]
      unfold dL
      rw [if_neg (by omega), if_neg (by omega), if_pos rfl, Int.zero_add, Int.zero_add, ← Int.add_mul]
      exact congrArg (· * x (184 + pp x t)) (by omega)
    · rw [DL_s, i3 j h1 h2 h3]
      unfold dL
      rw [if_neg (by omega), if_neg (by omega), if_neg h3]; rfl
    · rw [DL_s, i4 a (by omega) h2 h3]
      unfold dL
      rw [if_neg (by omega), if_neg (by omega), if_neg (by omega)]; rfl
theorem WL_i {x : Nat → Int} {t : Nat} (h : LK x t) (hq : CQ x) : ∀ n, n ≤ 10 → (x 1545).toNat + mdn x t n ≤ 20 → Inv0 (WL x t n)
  | 0, _, _ => h.1
  | n + 1, hn, hm => by
    have ms := mdn_s x t n
    have ih := WL_i h hq n (by omega) (by omega)
    obtain ⟨w1, w2, w3⟩ := WL_n h n (by omega) (by omega)
    have kl := h.ln (a := n) (by omega)
    have kg := h.g1 (a := n) (by omega)
    have p1 := h.f.2.2.2.2.2.1
    have d1 := h.f.2.2.2.1
    have kq := KQ_le x
    rw [WL_s]
    by_cases z : 0 < lnt x t n
    · rw [if_pos z] at ms
      rw [if_pos z]
      have hl : (x 1545).toNat + mdn x t n < 20 := by omega
      have lz := h.lz z (by omega)
      have fr := h.free (a := n) (s := pp x t) (by omega) p1
      have pa := h.1.dlA h.2.1
      have pr := (h.1.2.2.1.1 (pp x t) p1).2.1
      have la := h.1.2.2.2.1.le (a := n) (s := pp x t) (by omega) p1
      have kQ : KQ (WL x t n) = KQ x := KQ_eq (fun e he => w1 _ (by omega))
      have m0 : 0 ≤ lnt x t n * x (184 + pp x t) := Int.mul_nonneg (by omega) pr.1
      have m1 : lnt x t n * x (184 + pp x t) ≤ 59049000000 * 1000 := Int.mul_le_mul (by omega) pr.2 pr.1 (by omega)
      have i1 := ih.lrw hl w2 (D := dl x t) (a := n) (s := pp x t) (y := lnt x t n) (P := x (184 + pp x t)) (by rw [w1 _ (by omega)]; exact pa.1) (by rw [w1 _ (by omega)]; exact lz.2.2.2.1) (by rw [w1 _ (by omega)]; exact pa.2.2) (by rw [kQ]; omega) (by omega)
      have W1n : ∀ j, (j < 930 ∨ (1050 ≤ j ∧ j ≠ 1545)) → ups (rw' (WL x t n) ((x 1545).toNat + mdn x t n) (dl x t) n (pp x t) (lnt x t n) (x (184 + pp x t))) 1545 ((((x 1545).toNat + mdn x t n : Nat) : Int) + 1) j = WL x t n j := fun j hj => by rw [ups_ne (by omega), rw_n hl (by omega)]
      have wq := WL_q h hq (n := n) (by omega) (by omega)
      have hh : WL x t n (100 + 4 * n + pp x t) = x (100 + 4 * n + pp x t) := by
        rw [w3 hq _ (cel_t (by omega)), wA_c (cel_t (by omega)), (DL_D h n (by omega)).2.2.2 n (Nat.le_refl n) (by omega) lz.2.1, Int.add_zero, w64_id (hq _ (cel_t (by omega)))]
      generalize hW : ups (rw' (WL x t n) ((x 1545).toNat + mdn x t n) (dl x t) n (pp x t) (lnt x t n) (x (184 + pp x t))) 1545 ((((x 1545).toNat + mdn x t n : Nat) : Int) + 1) = W1 at *
      have eq : ups (wU W1 n (dl x t) (pp x t) (lnt x t n)) (40 + dl x t) (w64 (W1 (40 + dl x t) + w64 (lnt x t n * x (184 + pp x t)))) = wA W1 (dL (dl x t) (pp x t) (x (184 + pp x t)) n (lnt x t n)) := wA_dL (w := W1) (wA_q' wq (fun j hj => by have := cel_lt hj; exact W1n j (by omega))) d1 (by omega) p1 (P := x (184 + pp x t)) (y := lnt x t n) (Or.inl lz.2.1)
      rw [← eq]
      have i2 := i1.mvu (a := n) (b := dl x t) (s := pp x t) (u := lnt x t n) (by rw [W1n _ (by omega), w1 _ (by omega)]; exact lz.2.2.2.1) (by rw [W1n _ (by omega), w1 _ (by omega)]; exact pa.1) (by rw [W1n _ (by omega), w1 _ (by omega)]; exact pa.2.2) (by omega) (by rw [W1n _ (by omega), W1n _ (by omega), hh, w1 _ (by omega)]; omega)
      exact i2.pm ((eqo.refl _ _).up (pm_y (by omega)))
    · rw [if_neg z]; exact ih
theorem WL_m {x : Nat → Int} {t : Nat} (h : LK x t) {N : Int} (hM : IM N x) (hN0 : 0 ≤ N) (hN : N ≤ 4000000000000000000) (hm : (x 1545).toNat + mdn x t 10 ≤ 20) : IM (N + 60000000000000) (WL x t 10) := fun b hb => by
  have hq := h.1.cq hM hN
  obtain ⟨w1, w2, w3⟩ := WL_n h 10 (by omega) hm
  obtain ⟨i1, i2, i3, -⟩ := DL_D h 10 (by omega)
  have k := hM b hb
  have p1 := h.f.2.2.2.2.2.1
  have d1 := h.f.2.2.2.1
  have k0 := h.r0
  have k10 := h.r1 10 (by omega)
  have pr := (h.1.2.2.1.1 (pp x t) p1).2.1
  have m0 : 0 ≤ (rm x t 0 - rm x t 10) * x (184 + pp x t) := Int.mul_nonneg (by omega) pr.1
  have m1 : (rm x t 0 - rm x t 10) * x (184 + pp x t) ≤ 59049000000 * 1000 := Int.mul_le_mul (by omega) pr.2 pr.1 (by omega)
  rw [w3 hq _ (cel_t (by omega)), w3 hq _ (cel_t (by omega)), wA_c (cel_t (by omega)), wA_c (cel_t (by omega)), w1 (80 + b) (by omega), i3 (30 + b) (by omega) (by omega) (by omega), w64_i (x := x (30 + b) + 0) (by omega) (by omega)]
  by_cases z : b = dl x t
  · rw [z, i2, w64_i (by rw [← z]; omega) (by rw [← z]; omega), ← z]; omega
  · rw [i3 (40 + b) (by omega) (by omega) (by omega), w64_i (by omega) (by omega)]; omega
theorem wBl_i {x : Nat → Int} {t : Nat} (h : LK x t) {N : Int} (hM : IM N x) (hN0 : 0 ≤ N) (hN : N ≤ 3900000000000000000) (h7 : x (870 + t) = 0) (ho : lok x t = true) : Inv0 (wBl x t) ∧ IM (N + 61000000000000) (wBl x t) ∧ (∀ j, (j < 30 ∨ (50 ≤ j ∧ j < 100) ∨ (140 ≤ j ∧ j < 570) ∨ (610 ≤ j ∧ j < 870) ∨ (890 ≤ j ∧ j < 930) ∨ (1050 ≤ j ∧ j ≠ 1545)) → wBl x t j = x j) ∧ QC x (wBl x t) := by
  have hq := h.1.cq hM (by omega)
  unfold lok at ho
  rw [Bool.and_eq_true, Bool.and_eq_true, decide_eq_true_eq, decide_eq_true_eq] at ho
  obtain ⟨o1, o2, -⟩ := ho
  obtain ⟨w1, w2, w3⟩ := WL_n h 10 (by omega) o2
  obtain ⟨i1, -, -, -⟩ := DL_D h 10 (by omega)
  have f := h.f
  obtain ⟨f0, -, -, d1, r1, p1, -⟩ := id f
  obtain ⟨-, -, -, t4, -, t6, -⟩ := (h.1.2.2.2.2.2.1 t f0).1 h.2.1
  have kq := KQ_le x
  have la := h.1.2.2.2.1.le d1 p1
  have fr := h.free d1 p1
  have iW := WL_i h hq 10 (by omega) o2
  have mW := WL_m h hM hN0 (by omega) o2
  obtain ⟨q1, q2, q3, q4⟩ := h.e (y := WL x t 10) (fun j a b => w1 j (by omega))
  have hl : (t : Int) < WL x t 10 1543 := by rw [w1 _ (by omega)]; exact h.2.1
  have r0 : rm x t 0 = x (770 + t) - sFree x (dl x t) (pp x t) := rfl
  have hD : WL x t 10 (100 + 4 * dl x t + pp x t) = x (770 + t) + x (140 + 4 * dl x t + pp x t) := by
    rw [w3 hq _ (cel_t (by omega)), wA_c (cel_t (by omega)), i1, o1, w64_i (by omega) (by omega)]; omega
  have j1 := iW.one (WL_q h hq (by omega) o2) hl (u := x (770 + t)) (a := x (790 + t)) (by rw [q2, q4, hD, w1 _ (by omega)]; omega)
  have j2 := mW.one (by omega) (by omega) q1 (u := x (770 + t)) t6
  rw [show dT (WL x t 10) t (x (770 + t)) (x (790 + t)) = dT x t (x (770 + t)) (x (790 + t)) by unfold dT; rw [q2, q3, q4]] at j1 j2
  have hl2 : (t : Int) < wA (WL x t 10) (dT x t (x (770 + t)) (x (790 + t))) 1543 := by rw [wA_n (by omega)]; exact hl
  have g1 := j1.tf hl2
  have n : ∀ j, (j < 30 ∨ (50 ≤ j ∧ j < 100) ∨ (140 ≤ j ∧ j < 570) ∨ (610 ≤ j ∧ j < 870) ∨ (890 ≤ j ∧ j < 930) ∨ (1050 ≤ j ∧ j ≠ 1545)) → wBl x t j = x j := fun j hj => by
    unfold wBl
    rw [wPs_n g1 (by omega), wA_n (by omega), w1 j (by omega)]
  have e : wBl x t = wOv (wA (WL x t 10) (dT x t (x (770 + t)) (x (790 + t)))) t 1 := (wOv_1 j1.1 g1).symm
  obtain ⟨-, -, dz, -⟩ := DL_D h 10 (by omega)
  have hc : ∀ a, a < 10 → wBl x t (30 + a) = wA x (dT x t (x (770 + t)) (x (790 + t))) (30 + a) := fun a ha => by
    unfold wBl
    rw [wPs_n g1 (by omega), wA_c (cel_t (by omega)), wA_c (cel_t (by omega)), w3 hq _ (cel_t (by omega)), wA_c (cel_t (by omega)), dz _ (by omega) (by omega) (by omega), Int.add_zero, w64_add]
  have hs : NS x (wBl x t) := fun i hi hz => by
    obtain ⟨-, -, -, -, -, -, -, -, -, -, -, -, y1, y2⟩ := (h.1.2.2.2.2.2.1 t f0).1 h.2.1
    have q3' : di (wA (WL x t 10) (dT x t (x (770 + t)) (x (790 + t)))) t = di x t := by unfold di; rw [wA_n (by omega), w1 _ (by omega)]
    have q4' : ri (wA (WL x t 10) (dT x t (x (770 + t)) (x (790 + t)))) t = ri x t := by unfold ri; rw [wA_n (by omega), w1 _ (by omega)]
    unfold wBl
    rw [wPs_ns hi f0 (by rw [q3']; intro z; rw [← z] at y1; omega) (by rw [q4']; intro z; rw [← z] at y2; omega), wA_n (by omega), w1 _ (by omega)]
  refine ⟨?_, ?_, n, cse_dT f (h.1.at t h.2.1) h.1.1.1.2 hc, hs⟩
  · rw [e]
    exact j1.over hl2 (by rw [wA_n (by omega), w1 _ (by omega)]; exact h7) (Or.inl rfl)
  · have := j2.mono (m := N + 61000000000000) (by omega)
    exact this.fr (fun j a b => by unfold wBl; exact wPs_n g1 (by omega))
