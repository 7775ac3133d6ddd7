-- the class settles a trade by loans
theorem mks {x T : Nat → Int} {t : Nat} (h : LK x t) (hq : CQ x) (hm : (x 1545).toNat + mdn x t 10 ≤ 20) : ∀ (k n m : Nat) (M : xM), n + k = 10 → k < m → SS M (WL x t n) T → (∀ i, i < 10 → M 398 i = lnt x t i) → ∃ M', fX2_makeLoans_14 395 (102 + t) (12 + 4 * dl x t) m (n : Int) M = some (.inl 0, M') ∧ SS M' (WL x t 10) T ∧ fz M M'
  | _, _, 0, _, _, hn, _, _ => absurd hn (Nat.not_lt_zero _)
  | 0, n, m + 1, M, hn, _, hS, _ => by
    have : n = 10 := by omega
    subst this
    exact ⟨M, by rw [fX2_makeLoans_14, if_pos (by omega)]; rfl, hS, fz.refl M⟩
  | k + 1, n, m + 1, M, hn, hmk, hS, h8 => by
    have mono : ∀ d, mdn x t (n + 1) ≤ mdn x t (n + 1 + d) := by
      intro d
      induction d with
      | zero => exact Nat.le_refl _
      | succ d ih => rw [← Nat.add_assoc, mdn_s x t (n + 1 + d)]; omega
    have m10 := mono k
    rw [show n + 1 + k = 10 by omega] at m10
    obtain ⟨M1, a1, a2, a3⟩ := mk_step h hq (n := n) (by omega) (by omega) hS h8
    obtain ⟨M2, b1, b2, b3⟩ := mks h hq hm k (n + 1) m M1 (by omega) (by omega) a2 (fun i hi => by rw [a3 398 (by omega)]; exact h8 i hi)
    exact ⟨M2, by rw [a1]; exact b1, b2, a3.trans b3⟩
def lok (x : Nat → Int) (t : Nat) : Bool := decide (rm x t 10 = 0) && (decide ((x 1545).toNat + mdn x t 10 ≤ 20) && lFit x t)
def fl (M M' : xM) : Prop := ∀ c, c ≠ 398 → (c = 0 ∨ 199 ≤ c) → M' c = M c
theorem fz.l {M M' : xM} (h : fz M M') : fl M M' := fun c _ hc => h c hc
theorem fl.trans {M N P : xM} (h : fl M N) (h2 : fl N P) : fl M P := fun c a b => (h2 c a b).trans (h c a b)
def wBl (x : Nat → Int) (t : Nat) : Nat → Int := wPs (wA (WL x t 10) (dT x t (x (770 + t)) (x (790 + t)))) t 2
theorem CF.l {M M' : xM} {c : Nat → Nat} {q : Nat} (h : CF M c q) (z : fl M M') : CF M' c q := by
  unfold CF; rw [z 395 (by omega) (by omega), z 396 (by omega) (by omega)]; exact h
theorem c_trial {M : xM} {x T : Nat → Int} {t : Nat} (hS : SS M x T) (h : LK x t) (hq : CQ x) (h8 : ∀ i, i < 10 → M 398 i = lnt x t i) (hm : (x 1545).toNat + mdn x t 10 ≤ 20) : ∃ M', xb (fX2_shiftLoans 395 (102 + t) 1 M) (fun z3 M4 => xb (fX1_shift 3 (102 + t) (M4 (102 + t) 6) (M4 (102 + t) 7) M4) (fun z5 M6 => xb (fX1_isFirm 3 (M6 (102 + t) 3) M6) (fun z7 M8 => (if z7 = 0 then (fX2_settleByLoan_165 395 (102 + t) M8) else xb (fX1_isFirm 3 (M8 (102 + t) 4) M8) (fun z9 M10 => (if z9 = 0 then (fX2_settleByLoan_165 395 (102 + t) M10) else xb (fX2_areLendersFirm 395 M10) (fun z11 M12 => (if z11 = 0 then (fX2_settleByLoan_165 395 (102 + t) M12) else (fX2_settleByLoan_166 395 (102 + t) 1 M12))))))))) = some (.inl (bi (lFit x t)), M') ∧ SS M' (if lFit x t then wBl x t else x) (if lFit x t then sTb x T t else T) ∧ fz M M' := by
  have f := h.f
  obtain ⟨f0, -, -, d1, r1, p1, -⟩ := id f
  have c1 := h.1.1.2.1
  have k0 := h.r0
  obtain ⟨-, -, -, -, -, t6, -⟩ := (h.1.2.2.2.2.2.1 t f0).1 h.2.1
  obtain ⟨M1, a1, a2, a3⟩ := c_shls h hq hS.1 h8
  obtain ⟨g1, -, -, e1, e2, e3⟩ := f.wA (DL x t 10)
  have n1 : ∀ j, 140 ≤ j → wA x (DL x t 10) j = x j := fun j hj => wA_n (by omega)
  obtain ⟨M2, b1, b2, b3⟩ := c_shf a2 (wA_q _ _) (t := t) (by rw [n1 _ (by omega)]; exact h.2.1) g1 (x (770 + t)) (x (790 + t))
  rw [dT_wA f, wA_wA, show wA x (fun j => DL x t 10 j + dT x t (x (770 + t)) (x (790 + t)) j) = wA x (TD x t) from rfl] at b2
  obtain ⟨k1, -, -, l1, l2, l3⟩ := f.wA (TD x t)
  have n2 : ∀ j, 140 ≤ j → wA x (TD x t) j = x j := fun j hj => wA_n (by omega)
  have tl2 : (t : Int) < wA x (TD x t) 1543 := by rw [n2 _ (by omega)]; exact h.2.1
  have fi1 := c_firm b2 d1 (by rw [n2 _ (by omega)]; omega) (by rw [n2 _ (by omega)]; omega) (TD_hb h d1)
  have fi2 := c_firm b2 r1 (by rw [n2 _ (by omega)]; omega) (by rw [n2 _ (by omega)]; omega) (TD_hb h r1)
  have fi3 := c_lf (x := x) (t := t) b2 (fun a ha => TD_hb h ha) (by rw [n2 _ (by omega)]; omega) (by rw [n2 _ (by omega)]; omega) (fun i hi => by rw [b3 398 (by omega), a3 398 (by omega)]; exact h8 i hi)
  obtain ⟨M3, i1, i2, i3⟩ := c_shf b2 (wA_q _ _) tl2 k1 (-x (770 + t)) (-x (790 + t))
  rw [dT_wA f, wA_wA, wA_e (E := DL x t 10) (fun j => by rw [dT_n]; unfold TD; omega)] at i2
  obtain ⟨M4, j1, j2, j3⟩ := c_shlb h hq i2 (fun i hi => by rw [i3 398 (by omega), b3 398 (by omega), a3 398 (by omega)]; exact h8 i hi)
  have z4 : fs M M4 := ((a3.trans b3).trans i3).trans j3
  have S4 : SS M4 x T := hS.fs j2 z4
  have h84 : ∀ i, i < 10 → M4 398 i = lnt x t i := fun i hi => by rw [z4 398 (by omega)]; exact h8 i hi
  have e166 : ∀ s0, fX2_settleByLoan_166 395 (102 + t) s0 M2 = if s0 = 0 then xret s0 M4 else xb (fX2_makeLoans 395 (102 + t) M4) (fun z5 M6 => xb (fX1_settleWhole 3 (102 + t) M6) (fun z7 M8 => (xret s0 M8))) := fun s0 => by
    unfold fX2_settleByLoan_166
    rw [xr_395_0, b2.tun f0, b2.tam f0, n2 _ (by omega), n2 _ (by omega), w64_i (by omega) (by omega), w64_i (by omega) (by omega), i1, xb_l, j1, xb_l]
  have e0' : fX2_settleByLoan_165 395 (102 + t) M2 = some (.inl 0, M4) := by
    unfold fX2_settleByLoan_165
    rw [e166, if_pos rfl]; rfl
  have hd : xb (fX2_shiftLoans 395 (102 + t) 1 M) (fun z3 M4 => xb (fX1_shift 3 (102 + t) (M4 (102 + t) 6) (M4 (102 + t) 7) M4) (fun z5 M6 => xb (fX1_isFirm 3 (M6 (102 + t) 3) M6) (fun z7 M8 => (if z7 = 0 then (fX2_settleByLoan_165 395 (102 + t) M8) else xb (fX1_isFirm 3 (M8 (102 + t) 4) M8) (fun z9 M10 => (if z9 = 0 then (fX2_settleByLoan_165 395 (102 + t) M10) else xb (fX2_areLendersFirm 395 M10) (fun z11 M12 => (if z11 = 0 then (fX2_settleByLoan_165 395 (102 + t) M12) else (fX2_settleByLoan_166 395 (102 + t) 1 M12))))))))) = if lFit x t then fX2_settleByLoan_166 395 (102 + t) 1 M2 else some (.inl 0, M4) := by
    rw [a1, xb_l, a2.tun f0, a2.tam f0, n1 _ (by omega), n1 _ (by omega), b1, xb_l, b2.tD tl2 k1, l1, fi1, xb_l, if_b0, b2.tR tl2 k1, l2, fi2, xb_l, if_b0, fi3, xb_l, if_b0, e0']
    unfold lFit
    cases sSnd (wA x (TD x t)) (dl x t)
    · rfl
    · rw [if_t]
      cases sSnd (wA x (TD x t)) (rc x t)
      · rfl
      · rw [if_t]
        cases lfA x t (wA x (TD x t)) 10 0 <;> rfl
  rw [hd]
  cases y : lFit x t
  · exact ⟨M4, rfl, S4, fun c hc => z4 c (by omega)⟩
  · obtain ⟨M5, m1, m2, m3⟩ := mks h hq hm 10 0 xN M4 (by omega) (by unfold xN; omega) S4 h84
    obtain ⟨w1, w2, w3⟩ := WL_n h 10 (by omega) hm
    obtain ⟨q1, q2, q3, q4⟩ := h.e (y := WL x t 10) (fun j a b => w1 j (by omega))
    obtain ⟨M6, o1, o2, o3⟩ := c_whole m2 (fun e he hne => by
      rw [w1 _ (by omega)] at hne
      rw [w1 _ (by omega)]; exact h.1.pg e he hne) (WL_q h hq (by omega) hm) (t := t) (by rw [w1 _ (by omega)]; exact h.2.1) q1
    rw [w1 _ (by omega), w1 _ (by omega), show dT (WL x t 10) t (x (770 + t)) (x (790 + t)) = dT x t (x (770 + t)) (x (790 + t)) by unfold dT; rw [q2, q3, q4], sTb_e q2 q3] at o2
    refine ⟨M6, ?_, o2, fun c hc => by rw [o3 c hc, m3 c hc, z4 c (by omega)]⟩
    rw [if_t, e166, if_neg (by decide)]
    unfold fX2_makeLoans
    rw [xr_395_0, S4.1.tD h.2.1 f, c_acc (by omega), xb_l, Int.toNat_natCast, show fX2_makeLoans_14 395 (102 + t) (12 + 4 * dl x t) xN 0 M4 = _ from m1, xb_l, o1, xb_l]; rfl
theorem c_byLoan {M : xM} {x T : Nat → Int} {t : Nat} (hS : SS M x T) (h : LK x t) (hq : CQ x) : ∃ M', fX2_settleByLoan 395 (102 + t) M = some (.inl (bi (lok x t)), M') ∧ SS M' (if lok x t then wBl x t else x) (if lok x t then sTb x T t else T) ∧ fl M M' := by
  have f := h.f
  obtain ⟨f0, -, -, d1, r1, p1, -⟩ := id f
  have c5 := h.1.1.2.2.2.2.2.1
  have k0 := h.r0
  have k10 := h.r1 10 (by omega)
  obtain ⟨M1, a1, a2, a3⟩ := c_find' hS.1 h
  have S1 : SS M1 x T := ⟨hS.1.fr (fun c _ _ => a2 c (by omega)), hS.2.1.frM (fun c _ _ => a2 c (by omega)), fun a ha => by rw [a2 2 (by omega)]; exact hS.2.2 a ha⟩
  have ml10 := mdn_le x t 10
  have key : ∀ k a n : Nat, a + k = 10 → k < n → ∃ m, fX2_settleByLoan_37 395 (102 + t) (rm x t 0) n (mdn x t a : Int) (a : Int) M1 = fX2_settleByLoan_37 395 (102 + t) (rm x t 0) (m + 1) (mdn x t 10 : Int) ((10 : Nat) : Int) M1 := by
    intro k
    induction k with
    | zero =>
      intro a n ha hn
      obtain ⟨m, rfl⟩ : ∃ m, n = m + 1 := ⟨n - 1, by omega⟩
      have : a = 10 := by omega
      subst this
      exact ⟨m, rfl⟩
    | succ k ih =>
      intro a n ha hn
      obtain ⟨m, rfl⟩ : ∃ m, n = m + 1 := ⟨n - 1, by omega⟩
      obtain ⟨m', hm'⟩ := ih (a + 1) m (by omega) (by omega)
      have mla := mdn_le x t a
      refine ⟨m', ?_⟩
      rw [← hm', fX2_settleByLoan_37, if_neg (by omega), xix_t (by omega) (by omega), xr_395_3, Int.toNat_natCast, a3 a (by omega), mdn_s x t a]
      unfold fX2_settleByLoan_66
      rw [xlet_b, xlet_b, w32_s (by omega), w32_i (x := (mdn x t a : Int) + 0) (by omega) (by omega), w32_i (x := (mdn x t a : Int) + 1) (by omega) (by omega)]
      by_cases z : lnt x t a ≤ 0
      · rw [if_pos z, if_neg (by omega), Int.add_zero]; rfl
      · rw [if_neg z, if_pos (by omega)]; rfl
  obtain ⟨m, hm⟩ := key 10 0 xN (by omega) (by unfold xN; omega)
  have e1 : w64 (x (770 + t) - sFree x (dl x t) (pp x t)) = rm x t 0 := by
    have : rm x t 0 = x (770 + t) - sFree x (dl x t) (pp x t) := rfl
    rw [← this]; exact w64_i (by omega) (by omega)
  have hd : fX2_settleByLoan 395 (102 + t) M = if rm x t 0 - rm x t 10 < rm x t 0 then some (.inl 0, M1) else if (x 1545).toNat + mdn x t 10 ≤ 20 then xb (fX2_shiftLoans 395 (102 + t) 1 M1) (fun z3 M4 => xb (fX1_shift 3 (102 + t) (M4 (102 + t) 6) (M4 (102 + t) 7) M4) (fun z5 M6 => xb (fX1_isFirm 3 (M6 (102 + t) 3) M6) (fun z7 M8 => (if z7 = 0 then (fX2_settleByLoan_165 395 (102 + t) M8) else xb (fX1_isFirm 3 (M8 (102 + t) 4) M8) (fun z9 M10 => (if z9 = 0 then (fX2_settleByLoan_165 395 (102 + t) M10) else xb (fX2_areLendersFirm 395 M10) (fun z11 M12 => (if z11 = 0 then (fX2_settleByLoan_165 395 (102 + t) M12) else (fX2_settleByLoan_166 395 (102 + t) 1 M12))))))))) else some (.inl 0, M1) := by
    unfold fX2_settleByLoan
    rw [a1, xb_l, xr_395_0, S1.1.tD h.2.1 f, c_acc (by omega), xb_l, Int.toNat_natCast, S1.1.tP h.2.1 f, c_free S1.1 d1 p1, xb_l, S1.1.tun f0, e1, xlet_b, show fX2_settleByLoan_37 395 (102 + t) (rm x t 0) xN 0 0 M1 = _ from hm, fX2_settleByLoan_37, if_pos (by omega), xr_395_3, xr_395_0, c_sum h a3, xb_l, S1.1.nL, w32_i (by omega) (by omega)]
    by_cases z : rm x t 0 - rm x t 10 < rm x t 0
    · rw [if_pos z, if_pos z]; rfl
    · rw [if_neg z, if_neg z]
      by_cases y : (x 1545).toNat + mdn x t 10 ≤ 20
      · rw [if_pos y, if_pos (by omega)]
      · rw [if_neg y, if_neg (by omega)]; rfl
  rw [hd]
  by_cases z : rm x t 0 - rm x t 10 < rm x t 0
  · have : lok x t = false := by unfold lok; rw [decide_eq_false (by omega)]; rfl
    rw [if_pos z, this]
    exact ⟨M1, rfl, S1, fun c hc _ => a2 c hc⟩
  · by_cases y : (x 1545).toNat + mdn x t 10 ≤ 20
    · have e : lok x t = lFit x t := by unfold lok; rw [decide_eq_true (by omega), decide_eq_true y]; rfl
      obtain ⟨M2, b1, b2, b3⟩ := c_trial S1 h hq a3 y
      rw [if_neg z, if_pos y, e]
      exact ⟨M2, b1, b2, fun c hc hc2 => by rw [b3 c hc2, a2 c hc]⟩
    · have : lok x t = false := by unfold lok; rw [decide_eq_false y, Bool.false_and, Bool.and_false]
      rw [if_neg z, if_neg y, this]
      exact ⟨M1, rfl, S1, fun c hc _ => a2 c hc⟩
