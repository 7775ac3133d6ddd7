-- shifts of units and amount on trial
def cel (j : Nat) : Bool := (decide (30 ≤ j) && decide (j < 50)) || (decide (100 ≤ j) && decide (j < 140))
theorem cel_t {j : Nat} (h : (30 ≤ j ∧ j < 50) ∨ (100 ≤ j ∧ j < 140)) : cel j = true := by
  unfold cel
  simp only [Bool.or_eq_true, Bool.and_eq_true, decide_eq_true_eq]; exact h
theorem cel_f {j : Nat} (h : j < 30 ∨ (50 ≤ j ∧ j < 100) ∨ 140 ≤ j) : cel j = false := by
  unfold cel
  simp only [Bool.or_eq_false_iff, Bool.and_eq_false_iff, decide_eq_false_iff_not]; omega
/-- cash, pledged and holdings with D added -/
def wA (w D : Nat → Int) : Nat → Int := fun j => if cel j then w64 (w j + D j) else w j
/-- cash and holdings are in their range -/
def CQ (w : Nat → Int) : Prop := ∀ j, cel j = true → R64 (w j)
theorem wA_q (w D : Nat → Int) : CQ (wA w D) := fun j hj => by
  unfold wA; rw [hj, if_t]; exact w64_r _
theorem wA_n {w D : Nat → Int} {j : Nat} (h : j < 30 ∨ (50 ≤ j ∧ j < 100) ∨ 140 ≤ j) : wA w D j = w j := by
  unfold wA; rw [cel_f h, if_f]
theorem wA_c {w D : Nat → Int} {j : Nat} (h : cel j = true) : wA w D j = w64 (w j + D j) := by
  unfold wA; rw [h, if_t]
theorem wA_0 {w D : Nat → Int} (h : CQ w) (hD : ∀ j, D j = 0) : wA w D = w := by
  funext j; unfold wA
  cases q : cel j
  · rfl
  · rw [if_t, hD j, Int.add_zero, w64_id (h j q)]
theorem wA_wA (w D E : Nat → Int) : wA (wA w D) E = wA w (fun j => D j + E j) := by
  funext j; unfold wA
  cases q : cel j
  · rw [if_f, if_f, if_f]
  · rw [if_t, if_t, if_t]
    show w64 (w64 (w j + D j) + E j) = w64 (w j + (D j + E j))
    rw [w64_add, Int.add_assoc]
theorem wA_e {w D E : Nat → Int} (h : ∀ j, D j = E j) : wA w D = wA w E := by
  have : D = E := funext h
  rw [this]
/-- what a trade's shift adds -/
def dT (w : Nat → Int) (t : Nat) (u a : Int) : Nat → Int := fun j => if j = 100 + 4 * dl w t + pp w t then -u else if j = 100 + 4 * rc w t + pp w t then u else if j = 30 + dl w t then a else if j = 30 + rc w t then -a else 0
theorem dT_n {w : Nat → Int} {t : Nat} {u a : Int} (j : Nat) : dT w t (-u) (-a) j = - dT w t u a j := by
  unfold dT
  split
  · rfl
  · split
    · rfl
    · split
      · rfl
      · split <;> rfl
theorem TF.wA {w : Nat → Int} {t : Nat} (h : TF w t) (D : Nat → Int) : TF (wA w D) t ∧ di (wA w D) t = di w t ∧ ri (wA w D) t = ri w t ∧ dl (wA w D) t = dl w t ∧ rc (wA w D) t = rc w t ∧ pp (wA w D) t = pp w t := h.fr (fun j hj => wA_n (by omega))
theorem dT_wA {w : Nat → Int} {t : Nat} (h : TF w t) (D : Nat → Int) (u a : Int) : dT (wA w D) t u a = dT w t u a := by
  obtain ⟨-, -, -, e1, e2, e3⟩ := h.wA D
  unfold dT; rw [e1, e2, e3]
theorem wA_ups {w : Nat → Int} (hq : CQ w) {t : Nat} (f : TF w t) (u a : Int) : wA w (dT w t u a) = ups (ups (ups (ups w (100 + 4 * dl w t + pp w t) (w64 (w (100 + 4 * dl w t + pp w t) - u))) (100 + 4 * rc w t + pp w t) (w64 (w (100 + 4 * rc w t + pp w t) + u))) (30 + dl w t) (w64 (w (30 + dl w t) + a))) (30 + rc w t) (w64 (w (30 + rc w t) - a)) := by
  obtain ⟨-, -, -, d1, r1, p1, -, -, -, -, -, ne⟩ := f
  funext j
  by_cases z4 : j = 30 + rc w t
  · rw [z4, ups_same, wA_c (cel_t (by omega))]
    unfold dT
    rw [if_neg (by omega), if_neg (by omega), if_neg (by omega), if_pos rfl]; rfl
  · rw [ups_ne z4]
    by_cases z3 : j = 30 + dl w t
    · rw [z3, ups_same, wA_c (cel_t (by omega))]
      unfold dT
      rw [if_neg (by omega), if_neg (by omega), if_pos rfl]
    · rw [ups_ne z3]
      by_cases z2 : j = 100 + 4 * rc w t + pp w t
      · rw [z2, ups_same, wA_c (cel_t (by omega))]
        unfold dT
        rw [if_neg (by omega), if_pos rfl]
      · rw [ups_ne z2]
        by_cases z1 : j = 100 + 4 * dl w t + pp w t
        · rw [z1, ups_same, wA_c (cel_t (by omega))]
          unfold dT
          rw [if_pos rfl]; rfl
        · rw [ups_ne z1]
          have e : dT w t u a j = 0 := by unfold dT; rw [if_neg z1, if_neg z2, if_neg z3, if_neg z4]
          cases q : cel j
          · unfold wA; rw [q, if_f]
          · rw [wA_c q, e, Int.add_zero, w64_id (hq j q)]
/-- nothing but cash and holdings changed in the class's accounts -/
def fs (M M' : xM) : Prop := ∀ c, (c < 12 ∨ 52 ≤ c ∨ c % 4 = 2 ∨ c % 4 = 3) → M' c = M c
theorem fs.refl (M : xM) : fs M M := fun _ _ => rfl
theorem fs.trans {M N P : xM} (h : fs M N) (h2 : fs N P) : fs M P := fun c hc => (h2 c hc).trans (h c hc)
theorem ups_cm {w : Nat → Int} {i j : Nat} {x y : Int} (h : i ≠ j) : ups (ups w i x) j y = ups (ups w j y) i x := by
  funext k
  by_cases a : k = i
  · rw [a, ups_ne h, ups_same, ups_same]
  · by_cases b : k = j
    · rw [b, ups_same, ups_ne (Ne.symm h), ups_same]
    · rw [ups_ne b, ups_ne a, ups_ne a, ups_ne b]
theorem c_shf {M : xM} {w : Nat → Int} (hR : R M w) (hq : CQ w) {t : Nat} (ht : (t : Int) < w 1543) (f : TF w t) (u a : Int) : ∃ M', fX1_shift 3 (102 + t) u a M = some (.inl 0, M') ∧ R M' (wA w (dT w t u a)) ∧ fs M M' := by
  obtain ⟨f0, -, -, d1, r1, p1, -, -, -, -, -, ne⟩ := id f
  have r1' := hR.held_up d1 p1 (v := w64 (w (100 + 4 * dl w t + pp w t) - u))
  have r2 := r1'.held_up r1 p1 (v := w64 (w (100 + 4 * rc w t + pp w t) + u))
  have r3 := r2.cash_up r1 (v := w64 (w (30 + rc w t) - a))
  have r4 := r3.cash_up d1 (v := w64 (w (30 + dl w t) + a))
  rw [ups_cm (i := 30 + rc w t) (j := 30 + dl w t) (by omega), ← wA_ups hq f u a] at r4
  refine ⟨_, ?_, r4, fun c hc => by rw [xup_row (by omega), xup_row (by omega), xup_row (by omega), xup_row (by omega)]⟩
  have t3 : ∀ (N : xM) (c k : Nat) (v : Int), c < 100 → xup N c k v (102 + t) = N (102 + t) := fun N c k v hc => xup_row (by omega)
  unfold fX1_shift fX1_payFor
  rw [hR.tD ht f, c_acc (by omega), xb_l, Int.toNat_natCast, hR.tP ht f, c_shft d1 p1, xb_l, t3 _ _ _ _ (by omega), hR.tR ht f, c_acc (by omega), xb_l, Int.toNat_natCast, t3 _ _ _ _ (by omega), hR.tP ht f, c_shft r1 p1, xb_l, t3 _ _ _ _ (by omega), t3 _ _ _ _ (by omega), hR.tR ht f, c_acc (by omega), xb_l, Int.toNat_natCast, xput_b, t3 _ _ _ _ (by omega), t3 _ _ _ _ (by omega), t3 _ _ _ _ (by omega), hR.tD ht f, c_acc (by omega), xb_l, Int.toNat_natCast, xput_b]
  rw [xup_c (a := 12 + 4 * rc w t) (by omega), xup_c (a := 12 + 4 * rc w t) (by omega), hR.cash r1, xup_c (a := 13 + 4 * rc w t) (by omega), hR.held r1 p1, hR.held d1 p1]
  rw [xup_c (a := 12 + 4 * dl w t) (by omega), xup_c (a := 12 + 4 * dl w t) (by omega), xup_c (a := 12 + 4 * dl w t) (by omega), hR.cash d1]
  rw [w64_add', show w (100 + 4 * dl w t + pp w t) + -u = w (100 + 4 * dl w t + pp w t) - u from rfl]
  rfl
theorem m_mov {M : xM} {w T : Nat → Int} {h : Int} (hq : CQ w) {t : Nat} (f : TF w t) (u a : Int) : fX12_move 400 (t : Int) u a (st M w T h) = some (.inl 0, st M (wA w (dT w t u a)) T h) := by
  obtain ⟨f0, -, -, d1, r1, p1, -, -, -, -, -, ne⟩ := id f
  have key : ∀ (w' : Nat → Int), (∀ j, 200 ≤ j → w' j = w j) → fX12_deliverer 400 (t : Int) (st M w' T h) = some (.inl (dl w t : Int), st M w' T h) ∧ fX12_receiver 400 (t : Int) (st M w' T h) = some (.inl (rc w t : Int), st M w' T h) ∧ fX12_paper 400 (t : Int) (st M w' T h) = some (.inl (pp w t : Int), st M w' T h) := fun w' hw => by
    obtain ⟨g, -, -, e1, e2, e3⟩ := f.fr (fun j hj => hw j (by omega))
    have k1 := m_dl (M := st M w' T h) (t := t) (by rw [st_401]; exact g)
    have k2 := m_rc (M := st M w' T h) (t := t) (by rw [st_401]; exact g)
    have k3 := m_pp (M := st M w' T h) (t := t) (by rw [st_401]; exact g)
    rw [st_401, e1] at k1
    rw [st_401, e2] at k2
    rw [st_401, e3] at k3
    exact ⟨k1, k2, k3⟩
  rw [wA_ups hq f u a]
  unfold fX12_move
  rw [(key w (fun _ _ => rfl)).2.2, xb_l, (key w (fun _ _ => rfl)).1, xb_l]
  simp (disch := omega) only [w32_i, xix_t, xr_400_0, tn_add, tn_4, Int.toNat_natCast, Int.reduceToNat, xput_b, st_w, st_401]
  rw [(key _ (fun j hj => by rw [ups_ne (by omega)])).2.1, xb_l]
  simp (disch := omega) only [w32_i, xix_t, xr_400_0, tn_add, tn_4, Int.toNat_natCast, Int.reduceToNat, xput_b, st_w, st_401, ups_ne]
  rw [(key _ (fun j hj => by rw [ups_ne (by omega), ups_ne (by omega)])).1, xb_l]
  simp (disch := omega) only [w32_i, xix_t, xr_400_0, tn_add, tn_4, Int.toNat_natCast, Int.reduceToNat, xput_b, st_w, st_401, ups_ne]
  rw [(key _ (fun j hj => by rw [ups_ne (by omega), ups_ne (by omega), ups_ne (by omega)])).2.1, xb_l]
  simp (disch := omega) only [w32_i, xix_t, xr_400_0, tn_add, tn_4, Int.toNat_natCast, Int.reduceToNat, xput_b, st_w, st_401, ups_ne]
  rfl
