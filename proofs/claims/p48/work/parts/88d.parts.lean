-- all parts of a cycle
def CF (M : xM) (c : Nat → Nat) (q : Nat) : Prop := M 395 4 = (q : Int) ∧ ∀ k, k < q → M 396 k = (c k : Int)
theorem CF.z {M M' : xM} {c : Nat → Nat} {q : Nat} (h : CF M c q) (z : fz M M') : CF M' c q := by
  unfold CF; rw [z 395 (by omega), z 396 (by omega)]; exact h
/-- the cycle's steps leave the rest alone -/
def cyF (w w' : Nat → Int) : Prop := ∀ j, (j < 30 ∨ (50 ≤ j ∧ j < 100) ∨ (140 ≤ j ∧ j < 570) ∨ (610 ≤ j ∧ j < 770) ∨ (810 ≤ j ∧ j < 870) ∨ (890 ≤ j ∧ j < 930) ∨ (1050 ≤ j ∧ j ≠ 1545)) → w' j = w j
theorem cyF.trans {w w1 w2 : Nat → Int} (h : cyF w w1) (h2 : cyF w1 w2) : cyF w w2 := fun j hj => (h2 j hj).trans (h j hj)
theorem wPt_n {x : Nat → Int} {t : Nat} {p : Int} (ht : t < 20) {j : Nat} (hj : j < 30 ∨ (50 ≤ j ∧ j < 100) ∨ (140 ≤ j ∧ j < 770) ∨ 810 ≤ j) : wPt x t p j = x j := by
  unfold wPt; rw [ups_ne (by omega), ups_ne (by omega), wA_n (by omega)]
theorem part_inv {x : Nat → Int} (h0 : Inv0 x) (hq : CQ x) {N : Int} (hM : IM N x) (hN0 : 0 ≤ N) (hN : N ≤ 4000000000000000000) {t : Nat} (ht : (t : Int) < x 1543) {p : Int} (hp : p = sFree x (dl x t) (pp x t)) (hf0 : 0 ≤ p) (hf2 : p < x (770 + t)) : Inv0 (wPt x t p) ∧ IM (N + 100000000) (wPt x t p) := by
  have f := h0.tf ht
  have kq := KQ_le x
  obtain ⟨f0, -, -, d1, r1, p1, -⟩ := id f
  obtain ⟨-, -, -, t4, -, t6, -⟩ := (h0.2.2.2.2.2.1 t f0).1 ht
  have pb := pA_b (x := x) (t := t) (p := p) ⟨by omega, by omega⟩ t6 ⟨hf0, by omega⟩
  have la := h0.2.2.2.1.le d1 p1
  have ef : sFree x (dl x t) (pp x t) = x (100 + 4 * dl x t + pp x t) - x (140 + 4 * dl x t + pp x t) := w64_i (by omega) (by omega)
  have i1 := h0.one hq ht (u := p) (a := pA x t p) ⟨hf0, by omega⟩
  have m1 := hM.one hN0 hN f (u := p) (a := pA x t p) (by omega)
  have k1 : KQ (wA x (dT x t p (pA x t p))) = KQ x := KQ_eq (fun e he => wA_n (by omega))
  have i2 := i1.tua (t := t) (by rw [wA_n (by omega)]; exact ht) (u := x (770 + t) - p) (a := x (790 + t) - pA x t p) (by rw [k1]; omega) (by omega)
  unfold wPt
  rw [w64_i (x := x (770 + t) - p) (by omega) (by omega), w64_i (x := x (790 + t) - pA x t p) (by omega) (by omega)]
  exact ⟨i2, m1.fr (fun j _ _ => by rw [ups_ne (by omega), ups_ne (by omega)])⟩
theorem part_step {M : xM} {x T : Nat → Int} (hS : SS M x T) (h0 : Inv0 x) {N : Int} (hM : IM N x) (hN0 : 0 ≤ N) (hN : N ≤ 4000000000000000000) {c : Nat → Nat} {q i : Nat} (hF : CF M c q) (hq : q ≤ 10) (hi2 : i < q) (ht : (c i : Int) < x 1543) : ∃ (M' : xM) (x' T' : Nat → Int), (∀ n, fX2_settleInPart_2 395 (n + 1) (i : Int) M = fX2_settleInPart_2 395 n ((i + 1 : Nat) : Int) M') ∧ SS M' x' T' ∧ fz M M' ∧ Inv0 x' ∧ IM (N + 100000000) x' ∧ (∀ (X : xM) (h z : Int) (n : Nat), CM X c q → fX12_cycle_126 400 z (n + 1) (i : Int) (st X x T h) = fX12_cycle_126 400 z n ((i + 1 : Nat) : Int) (st X x' T' h)) ∧ cyF x x' ∧ QC x x' := by
  have hQ := h0.cq hM hN
  have f := h0.tf ht
  have kq := KQ_le x
  obtain ⟨f0, -, -, d1, r1, p1, -⟩ := id f
  obtain ⟨-, -, -, t4, t5, t6, -, t8, -, t10, -⟩ := (h0.2.2.2.2.2.1 (c i) f0).1 ht
  have la := h0.2.2.2.1.le d1 p1
  have ef : sFree x (dl x (c i)) (pp x (c i)) = x (100 + 4 * dl x (c i) + pp x (c i)) - x (140 + 4 * dl x (c i) + pp x (c i)) := w64_i (by omega) (by omega)
  have cl : ∀ n, fX2_settleInPart_2 395 (n + 1) (i : Int) M = if x (770 + c i) ≤ sFree x (dl x (c i)) (pp x (c i)) then fX2_settleInPart_57 (fX2_settleInPart_2 395 n) 395 (i : Int) (102 + c i) (sFree x (dl x (c i)) (pp x (c i))) M else if sFree x (dl x (c i)) (pp x (c i)) < x (830 + c i) then fX2_settleInPart_57 (fX2_settleInPart_2 395 n) 395 (i : Int) (102 + c i) (sFree x (dl x (c i)) (pp x (c i))) M else fX2_settleInPart_58 (fX2_settleInPart_2 395 n) 395 (i : Int) (102 + c i) (sFree x (dl x (c i)) (pp x (c i))) 1 M := fun n => by
    rw [fX2_settleInPart_2, hF.1, if_neg (by omega), c_cnd (by omega) (by omega) (hF.2 i hi2), xb_l, Int.toNat_natCast, xr_395_0, hS.1.tD ht f, c_acc (by omega), xb_l, Int.toNat_natCast, hS.1.tP ht f, c_free hS.1 d1 p1, xb_l, hS.1.tun f0, hS.1.tlea f0]
  have ml : ∀ (X : xM) (h z : Int) (n : Nat), CM X c q → fX12_cycle_126 400 z (n + 1) (i : Int) (st X x T h) = if x (870 + c i) = 0 then (if x (830 + c i) ≤ 0 then fX12_cycle_126 400 z n ((i + 1 : Nat) : Int) (st X x T h) else if sLd x (c i) then fX12_cycle_126 400 z n ((i + 1 : Nat) : Int) (st X x T h) else xb (fX12_part 400 (c i : Int) (st X x T h)) (fun z3 M4 => fX12_cycle_126 400 z n ((i + 1 : Nat) : Int) M4)) else fX12_cycle_126 400 z n ((i + 1 : Nat) : Int) (st X x T h) := fun X h z n hX => by
    rw [fX12_cycle_126, st_k (by omega), hX.1, if_neg (by omega), xix_t (by omega) (by omega), xr_400_4, Int.toNat_natCast, st_c (c := 404) (by omega) (by omega) (by omega), hX.2 i hi2]
    unfold fX12_cycle_197
    simp (disch := omega) only [w32_i, xix_t, xr_400_0, tn_add, Int.toNat_natCast, Int.reduceToNat, st_401]
    rw [m_lkd h0.1, xb_l, if_b0, st_c (c := 404) (by omega) (by omega) (by omega), hX.2 i hi2, show (i : Int) + 1 = ((i + 1 : Nat) : Int) by omega]
  have e58 : ∀ n s0, fX2_settleInPart_58 (fX2_settleInPart_2 395 n) 395 (i : Int) (102 + c i) (sFree x (dl x (c i)) (pp x (c i))) s0 M = if x (870 + c i) = 0 then (if x (830 + c i) ≤ 0 then fX2_settleInPart_2 395 n ((i + 1 : Nat) : Int) M else if s0 = 0 then fX2_settleInPart_2 395 n ((i + 1 : Nat) : Int) M else if sLd x (c i) then fX2_settleInPart_2 395 n ((i + 1 : Nat) : Int) M else xb (fX2_settlePartOf 395 (102 + c i) (sFree x (dl x (c i)) (pp x (c i))) M) (fun z3 M4 => fX2_settleInPart_2 395 n ((i + 1 : Nat) : Int) M4)) else fX2_settleInPart_2 395 n ((i + 1 : Nat) : Int) M := fun n s0 => by
    unfold fX2_settleInPart_58 fX2_settleInPart_99
    rw [hS.1.tst f0, hS.1.tlea f0, xr_395_0, c_lkd hS.1 h0.1 f0, xb_l, if_b0, w32_s (by omega)]
    by_cases y : x (870 + c i) = 0
    · rw [if_pos y, if_pos (by omega)]
    · rw [if_neg y, if_neg (by omega)]
  have e57 : ∀ n, fX2_settleInPart_57 (fX2_settleInPart_2 395 n) 395 (i : Int) (102 + c i) (sFree x (dl x (c i)) (pp x (c i))) M = fX2_settleInPart_2 395 n ((i + 1 : Nat) : Int) M := fun n => by
    unfold fX2_settleInPart_57
    rw [e58, if_pos rfl]
    split
    · split <;> rfl
    · rfl
  have pskip : x (770 + c i) ≤ sFree x (dl x (c i)) (pp x (c i)) ∨ sFree x (dl x (c i)) (pp x (c i)) < x (830 + c i) → ∀ (X : xM) (h : Int), fX12_part 400 (c i : Int) (st X x T h) = some (.inl 0, st X x T h) := fun hz X h => by
    have mf := m_free (M := st X x T h) d1 p1
    have md := m_dl (M := st X x T h) (t := c i) f
    have mp := m_pp (M := st X x T h) (t := c i) f
    rw [st_401] at mf md mp
    unfold fX12_part
    rw [md, xb_l, mp, xb_l, mf, xb_l]
    simp (disch := omega) only [w32_i, xix_t, xr_400_0, tn_add, Int.toNat_natCast, Int.reduceToNat, st_401]
    by_cases y : x (770 + c i) ≤ sFree x (dl x (c i)) (pp x (c i))
    · rw [if_pos y]; rfl
    · rw [if_neg y, if_neg (show ¬ x (830 + c i) ≤ sFree x (dl x (c i)) (pp x (c i)) by omega)]; rfl
  by_cases z : x (870 + c i) = 0 ∧ ¬ x (830 + c i) ≤ 0 ∧ sLd x (c i) = false ∧ ¬ x (770 + c i) ≤ sFree x (dl x (c i)) (pp x (c i)) ∧ ¬ sFree x (dl x (c i)) (pp x (c i)) < x (830 + c i)
  · obtain ⟨z1, z2, z3, z4, z5⟩ := z
    have qp : ∀ p, QC x (wPt x (c i) p) := fun p => ⟨cse_dT f (h0.at (c i) ht) h0.1.1.2 (fun a ha => by unfold wPt; rw [ups_ne (by omega), ups_ne (by omega)]), fun i2 hi2 _ => wPt_n f0 (by omega)⟩
    obtain ⟨M1, a1, a2, a3⟩ := c_partOf hS h0 hQ ht (p := sFree x (dl x (c i)) (pp x (c i))) (by omega) (by omega)
    have pi := part_inv h0 hQ hM hN0 hN ht rfl (by omega) (by omega)
    refine ⟨M1, _, _, fun n => ?_, a2, a3, ?_, ?_, fun X h y n hX => ?_, fun j hj => ?_, by split; exact qp _; exact QC.refl x⟩
    · rw [cl, if_neg z4, if_neg z5, e58, if_pos z1, if_neg z2, if_neg (by decide), z3, if_f, a1, xb_l]
    · split
      · exact pi.1
      · exact h0
    · split
      · exact pi.2
      · exact hM.mono (by omega)
    · rw [ml X h y n hX, if_pos z1, if_neg z2, z3, if_f, m_partOf h0 hQ ht (by omega) (by omega) (by omega), xb_l]
    · split
      · exact wPt_n f0 (by omega)
      · rfl
  · refine ⟨M, x, T, fun n => ?_, hS, fz.refl M, h0, hM.mono (by omega), fun X h y n hX => ?_, fun _ _ => rfl, QC.refl x⟩
    · rw [cl, e57]
      by_cases y1 : x (770 + c i) ≤ sFree x (dl x (c i)) (pp x (c i))
      · rw [if_pos y1]
      · rw [if_neg y1]
        by_cases y2 : sFree x (dl x (c i)) (pp x (c i)) < x (830 + c i)
        · rw [if_pos y2]
        · rw [if_neg y2, e58, if_neg (c := (1 : Int) = 0) (by decide)]
          by_cases y3 : x (870 + c i) = 0
          · rw [if_pos y3]
            by_cases y4 : x (830 + c i) ≤ 0
            · rw [if_pos y4]
            · rw [if_neg y4]
              cases y5 : sLd x (c i)
              · exact absurd ⟨y3, y4, y5, y1, y2⟩ z
              · rfl
          · rw [if_neg y3]
    · rw [ml X h y n hX]
      by_cases y3 : x (870 + c i) = 0
      · rw [if_pos y3]
        by_cases y4 : x (830 + c i) ≤ 0
        · rw [if_pos y4]
        · rw [if_neg y4]
          cases y5 : sLd x (c i)
          · rw [if_f, pskip (by
              by_cases y1 : x (770 + c i) ≤ sFree x (dl x (c i)) (pp x (c i))
              · exact Or.inl y1
              · by_cases y2 : sFree x (dl x (c i)) (pp x (c i)) < x (830 + c i)
                · exact Or.inr y2
                · exact absurd ⟨y3, y4, y5, y1, y2⟩ z), xb_l]
          · rfl
      · rw [if_neg y3]
theorem parts {c : Nat → Nat} {q : Nat} (hq : q ≤ 10) : ∀ (k i : Nat) (M : xM) (x T : Nat → Int) (N : Int), i + k = q → SS M x T → Inv0 x → IM N x → 0 ≤ N → N + k * 100000000 ≤ 4000000000000000000 → CF M c q → (∀ k, k < q → (c k : Int) < x 1543) → ∃ (M' : xM) (x' T' : Nat → Int), (∀ n, k < n → fX2_settleInPart_2 395 n (i : Int) M = some (.inl 0, M')) ∧ SS M' x' T' ∧ fz M M' ∧ Inv0 x' ∧ IM (N + k * 100000000) x' ∧ (∀ (X : xM) (h z : Int) (n : Nat), k < n → CM X c q → fX12_cycle_126 400 z n (i : Int) (st X x T h) = some (.inl z, st X x' T' h)) ∧ cyF x x' ∧ QC x x' := by
  intro k
  induction k with
  | zero =>
    intro i M x T N hk hS h0 hM hN0 hN hF hc
    refine ⟨M, x, T, fun n hn => ?_, hS, fz.refl M, h0, hM.mono (by omega), fun X h z n hn hX => ?_, fun _ _ => rfl, QC.refl x⟩
    · obtain ⟨m, rfl⟩ : ∃ m, n = m + 1 := ⟨n - 1, by omega⟩
      rw [fX2_settleInPart_2, hF.1, if_pos (by omega)]; rfl
    · obtain ⟨m, rfl⟩ : ∃ m, n = m + 1 := ⟨n - 1, by omega⟩
      rw [fX12_cycle_126, st_k (by omega), hX.1, if_pos (by omega)]; rfl
  | succ k ih =>
    intro i M x T N hk hS h0 hM hN0 hN hF hc
    obtain ⟨M1, x1, T1, a1, a2, a3, a4, a5, a6, a7, aq⟩ := part_step hS h0 hM hN0 (by omega) hF hq (i := i) (by omega) (hc i (by omega))
    obtain ⟨M2, x2, T2, b1, b2, b3, b4, b5, b6, b7, bq⟩ := ih (i + 1) M1 x1 T1 (N + 100000000) (by omega) a2 a4 a5 (by omega) (by omega) (hF.z a3) (fun k hk => by rw [a7 1543 (by omega)]; exact hc k hk)
    refine ⟨M2, x2, T2, fun n hn => ?_, b2, a3.trans b3, b4, b5.mono (by omega), fun X h z n hn hX => ?_, a7.trans b7, aq.trans bq (a7 1540 (by omega)) (fun i hi => a7 _ (by omega))⟩
    · obtain ⟨m, rfl⟩ : ∃ m, n = m + 1 := ⟨n - 1, by omega⟩
      rw [a1]; exact b1 m (by omega)
    · obtain ⟨m, rfl⟩ : ∃ m, n = m + 1 := ⟨n - 1, by omega⟩
      rw [a6 X h z m hX]; exact b6 X h z m (by omega) hX
