/-! the class's calls: what they answer and leave -/
def Cx (M : xM) (w T : Nat → Int) (n : Nat) : Prop := R M w ∧ MV M w ∧ Inv ((n : Int) * 7000000000000000) w ∧ (∀ a : Nat, a < 10 → M 2 a = T a) ∧ ∀ t : Nat, t < 20 → M (298 + t) 0 = (t : Int)
def OKe (E : Nat → Prop) (F : xO) (M : xM) (n : Nat) (P : Int → (Nat → Int) → Prop) : Prop := (∃ e, E e ∧ F = some (.inr e, M)) ∨ ∃ (v : Int) (M1 : xM) (w1 T1 : Nat → Int), F = some (.inl v, M1) ∧ Sk M M1 w1 T1 n ∧ P v w1
def OKp (F : xO) (M : xM) (n : Nat) (P : Int → (Nat → Int) → Prop) : Prop := (∃ e, F = some (.inr e, M)) ∨ ∃ (v : Int) (M1 : xM) (w1 T1 : Nat → Int), F = some (.inl v, M1) ∧ Sk M M1 w1 T1 n ∧ P v w1
theorem Sk.cx {M M1 : xM} {w T w1 T1 : Nat → Int} {n : Nat} (s : Sk M M1 w1 T1 n) (h : Cx M w T n) : Cx M1 w1 T1 (n + 1) := ⟨s.1, s.2.1, s.2.2.2.1, s.2.2.1, fun t ht => by rw [s.2.2.2.2 (298 + t) (by omega)]; exact h.2.2.2.2 t ht⟩
theorem bi_b (b : Bool) : B01 (bi b) := by
  cases b
  · exact Or.inl rfl
  · exact Or.inr rfl
def NW (w w1 : Nat → Int) : Prop := ∀ i : Nat, i < 40 → w (650 + i) = -1 → w1 (570 + i) = 2 → w (570 + i) = 2
/-- what such calls leave as it was -/
def St (w w1 : Nat → Int) : Prop := (∀ j, j < 10 ∨ (80 ≤ j ∧ j < 90) ∨ (650 ≤ j ∧ j < 690) ∨ (730 ≤ j ∧ j < 770) ∨ (1130 ≤ j ∧ j < 1140) ∨ (1540 ≤ j ∧ j < 1544) ∨ j = 1546 ∨ j = 1547 → w1 j = w j) ∧ NW w w1
/-- an instruction's trade knows it -/
def ID (w : Nat → Int) : Prop := ∀ i : Nat, i < 40 → (i : Int) < w 1542 → 0 ≤ w (650 + i) → di w (w (650 + i)).toNat = i ∨ ri w (w (650 + i)).toNat = i
/-- without a trade nothing is settled -/
def IN (w : Nat → Int) : Prop := ∀ i : Nat, i < 40 → (i : Int) < w 1542 → w (650 + i) = -1 → w (570 + i) ≠ 2
theorem ID.fr {w w1 : Nat → Int} (h : ID w) (h0 : Inv0 w) (hF : ∀ j, (650 ≤ j ∧ j < 690) ∨ (730 ≤ j ∧ j < 770) ∨ j = 1542 → w1 j = w j) : ID w1 := fun i hi hl ht => by
  rw [hF 1542 (by omega)] at hl
  rw [hF (650 + i) (by omega)] at ht ⊢
  have k := ((h0.2.2.2.2.1 i hi).1 hl).2.2.2.2.2.2.2.2.2.2.1
  have c3 := h0.1.2.2.2.1
  have e1 : di w1 (w (650 + i)).toNat = di w (w (650 + i)).toNat := by unfold di; rw [hF _ (by omega)]
  have e2 : ri w1 (w (650 + i)).toNat = ri w (w (650 + i)).toNat := by unfold ri; rw [hF _ (by omega)]
  rw [e1, e2]; exact h i hi hl ht
theorem IN.fr {w w1 : Nat → Int} (h : IN w) (hF : ∀ j, (650 ≤ j ∧ j < 690) ∨ j = 1542 → w1 j = w j) (nw : NW w w1) : IN w1 := fun i hi hl hz z => by
  rw [hF 1542 (by omega)] at hl
  rw [hF _ (by omega)] at hz
  exact h i hi hl hz (nw i hi hz z)
theorem wMx_tr {w : Nat → Int} {i k t d r : Nat} (hi : i < 40) (hk : k < 40) (hik : i ≠ k) (ht : t < 20) (hdr : (d = k ∧ r = i) ∨ (d = i ∧ r = k)) (u am p l : Int) {X : Nat → Int} (hX : X = wPs (wMb w t i k (d : Int) (r : Int) u am p l) t 1) : (X (650 + i) = (t : Int) ∧ X (650 + k) = (t : Int)) ∧ (∀ x, x < 40 → x ≠ i → x ≠ k → X (650 + x) = w (650 + x) ∧ X (570 + x) = w (570 + x)) ∧ (∀ u, u < 20 → u ≠ t → X (730 + u) = w (730 + u) ∧ X (750 + u) = w (750 + u)) ∧ ((di X t = i ∨ ri X t = i) ∧ (di X t = k ∨ ri X t = k)) ∧ X 1543 = (t : Int) + 1 := by
  have hd40 : d < 40 := by omega
  have hr40 : r < 40 := by omega
  have e1 : di (wMb w t i k (d : Int) (r : Int) u am p l) t = d := by
    unfold di wMb; simp (disch := omega) only [ups_ne, ups_same, Int.toNat_natCast]
  have e2 : ri (wMb w t i k (d : Int) (r : Int) u am p l) t = r := by
    unfold ri wMb; simp (disch := omega) only [ups_ne, ups_same, Int.toNat_natCast]
  have eX : ∀ j, j ≠ 870 + t → j ≠ 570 + d → j ≠ 570 + r → X j = wMb w t i k (d : Int) (r : Int) u am p l j := fun j h1 h2 h3 => by
    rw [hX]; unfold wPs; rw [e1, e2, ups_ne h3, ups_ne h2, ups_ne h1]
  have f1 : X (730 + t) = (d : Int) := by
    rw [eX _ (by omega) (by omega) (by omega)]; unfold wMb; simp (disch := omega) only [ups_ne, ups_same]
  have f2 : X (750 + t) = (r : Int) := by
    rw [eX _ (by omega) (by omega) (by omega)]; unfold wMb; simp (disch := omega) only [ups_ne, ups_same]
  have g1 : di X t = d := by unfold di; rw [f1, Int.toNat_natCast]
  have g2 : ri X t = r := by unfold ri; rw [f2, Int.toNat_natCast]
  refine ⟨⟨?_, ?_⟩, fun x hx h1 h2 => ⟨?_, ?_⟩, fun v hv h1 => ⟨?_, ?_⟩, ⟨by omega, by omega⟩, ?_⟩
  · rw [eX _ (by omega) (by omega) (by omega)]; unfold wMb; simp (disch := omega) only [ups_ne, ups_same]
  · rw [eX _ (by omega) (by omega) (by omega)]; unfold wMb; simp (disch := omega) only [ups_ne, ups_same]
  · rw [eX _ (by omega) (by omega) (by omega)]; unfold wMb; simp (disch := omega) only [ups_ne, ups_same]
  · rw [eX _ (by omega) (by omega) (by omega)]; unfold wMb; simp (disch := omega) only [ups_ne, ups_same]
  · rw [eX _ (by omega) (by omega) (by omega)]; unfold wMb; simp (disch := omega) only [ups_ne, ups_same]
  · rw [eX _ (by omega) (by omega) (by omega)]; unfold wMb; simp (disch := omega) only [ups_ne, ups_same]
  · rw [eX _ (by omega) (by omega) (by omega)]; unfold wMb; simp (disch := omega) only [ups_ne, ups_same]
theorem wMa_tr {w : Nat → Int} {i k t : Nat} (hi : i < 40) (hk : k < 40) (hik : i ≠ k) (ht : t < 20) : (wMa w i k t (650 + i) = (t : Int) ∧ wMa w i k t (650 + k) = (t : Int)) ∧ (∀ x, x < 40 → x ≠ i → x ≠ k → wMa w i k t (650 + x) = w (650 + x) ∧ wMa w i k t (570 + x) = w (570 + x)) ∧ (∀ u, u < 20 → u ≠ t → wMa w i k t (730 + u) = w (730 + u) ∧ wMa w i k t (750 + u) = w (750 + u)) ∧ ((di (wMa w i k t) t = i ∨ ri (wMa w i k t) t = i) ∧ (di (wMa w i k t) t = k ∨ ri (wMa w i k t) t = k)) ∧ wMa w i k t 1543 = (t : Int) + 1 := by
  by_cases z : w (290 + i) = 0
  · exact wMx_tr hi hk hik ht (Or.inl ⟨rfl, rfl⟩) _ _ _ _ (by unfold wMa; rw [if_pos z, if_pos z])
  · exact wMx_tr hi hk hik ht (Or.inr ⟨rfl, rfl⟩) _ _ _ _ (by unfold wMa; rw [if_neg z, if_neg z])
theorem kop_setPrice {M : xM} {w T : Nat → Int} {n : Nat} (hr : Cx M w T n) (x p : Int) : OKe (fun _ => (inb x (w 1541) && rg p 1 1000) = false) (fX11_setPrice 0 x p M) M n (fun v w1 => (0 ≤ v ∧ v ≤ 1000) ∧ St w w1) := by
  obtain ⟨hR, hV, ⟨⟨hC, hA, hS, hH, hI, hT, hK, hL, hE⟩, hY, hM⟩, hO, -⟩ := id hr
  have hc := cs_setPrice hR hC x p
  have hb := hC.2.1
  cases q : inb x (w 1541)
  · rw [q, if_f] at hc
    exact Or.inl ⟨_, rfl, hc⟩
  · rw [q, if_t] at hc
    obtain ⟨s, rfl, hs⟩ := inb_t q
    cases q2 : rg p 1 1000
    · rw [q2, if_f] at hc
      exact Or.inl ⟨_, rfl, hc⟩
    · rw [q2, if_t, Int.toNat_natCast] at hc
      have hp := rg_t q2
      refine Or.inr ⟨_, _, ups w (184 + s) p, T, hc, ⟨hR.price_up (by omega), hV.up (by omega) (by omega) (by omega) (by omega) (by omega) (by omega) (by omega), tol hO (by omega), ⟨⟨hC.fr (fun j _ _ => ups_ne (by omega)), hA.fr hC (fun j _ => ups_ne (by omega)), ⟨fun s' hs' => ?_, fun k hk => ?_⟩, hH.fr (fun j _ => ups_ne (by omega)), hI.fr hC (fun j _ => ups_ne (by omega)), hT.fr hC (fun j _ => ups_ne (by omega)), hK.fr (fun j _ => ups_ne (by omega)), hL.fr (fun j _ => ups_ne (by omega)), hE.fr (fun j _ => ups_ne (by omega))⟩, hY.fr (fun j _ => ups_ne (by omega)), (hM.mono (by omega)).fr (fun j _ _ => ups_ne (by omega))⟩, frx (fr0 M) (by omega)⟩, ⟨by have := (hS.1 s (by omega)).2.1; exact this, ⟨fun j hj => ups_ne (by omega), fun i hi _ z => by rw [ups_ne (by omega)] at z; exact z⟩⟩⟩
      · have h1 := hS.1 s' hs'
        rw [ups_ne (i := 180 + s') (by omega), ups_ne (i := 188 + s') (by omega), ups_ne (i := 1541) (by omega)]
        by_cases e : s' = s
        · subst e; rw [ups_same]; omega
        · rw [ups_ne (by omega)]; exact h1
      · rw [ups_ne (by omega)]; exact hS.2 k hk
theorem kop_lend {M : xM} {w T : Nat → Int} {n : Nat} (hr : Cx M w T n) (x : Int) : OKe (fun _ => inb x (w 1540) = false) (fX11_lend 0 x M) M n (fun _ w1 => St w w1) := by
  obtain ⟨hR, hV, ⟨⟨hC, hA, hS, hH, hI, hT, hK, hL, hE⟩, hY, hM⟩, hO, -⟩ := id hr
  have hc := cs_lend hR hC x
  have hb := hC.1
  cases q : inb x (w 1540)
  · rw [q, if_f] at hc
    exact Or.inl ⟨_, rfl, hc⟩
  · rw [q, if_t] at hc
    obtain ⟨a, rfl, ha⟩ := inb_t q
    rw [Int.toNat_natCast] at hc
    refine Or.inr ⟨_, _, ups w (60 + a) (bi (decide (w (60 + a) = 0))), T, hc, ⟨hR.lends_up (by omega), hV.up (by omega) (by omega) (by omega) (by omega) (by omega) (by omega) (by omega), tol hO (by omega), ⟨⟨hC.fr (fun j _ _ => ups_ne (by omega)), ?_, hS.fr (fun j _ => ups_ne (by omega)), hH.fr (fun j _ => ups_ne (by omega)), hI.fr hC (fun j _ => ups_ne (by omega)), hT.fr hC (fun j _ => ups_ne (by omega)), hK.fr (fun j _ => ups_ne (by omega)), hL.fr (fun j _ => ups_ne (by omega)), hE.fr (fun j _ => ups_ne (by omega))⟩, hY.fr (fun j _ => ups_ne (by omega)), (hM.mono (by omega)).fr (fun j _ _ => ups_ne (by omega))⟩, frx (fr0 M) (by omega)⟩, ⟨fun j hj => ups_ne (by omega), fun i hi _ z => by rw [ups_ne (by omega)] at z; exact z⟩⟩
    intro b hb2
    have k := hA b hb2
    have bx : B01 (bi (decide (w (60 + a) = 0))) := by cases decide (w (60 + a) = 0); exact Or.inl rfl; exact Or.inr rfl
    rw [ups_ne (i := 20 + b) (by omega), ups_ne (i := 10 + b) (by omega), ups_ne (i := 70 + b) (by omega), ups_ne (i := 50 + b) (by omega), ups_ne (i := b) (by omega), ups_ne (i := 1540) (by omega)]
    have k2 : w (10 + b) = 1 → (b : Int) < w 1540 ∧ 0 ≤ w b ∧ ups w (60 + a) (bi (decide (w (60 + a) = 0))) (10 + (w b).toNat) = 0 := fun z => by
      have k3 := k.2.2.2.2.2.2 z
      have k4 := k.2.2.2.2.2.1 k3.1
      rw [ups_ne (by omega)]; exact k3
    by_cases z : b = a
    · subst z; rw [ups_same]; exact ⟨k.1, k.2.1, bx, k.2.2.2.1, k.2.2.2.2.1, k.2.2.2.2.2.1, k2⟩
    · rw [ups_ne (by omega)]; exact ⟨k.1, k.2.1, k.2.2.1, k.2.2.2.1, k.2.2.2.2.1, k.2.2.2.2.2.1, k2⟩
theorem kop_hold {M : xM} {w T : Nat → Int} {n : Nat} (hr : Cx M w T n) (x : Int) : OKe (fun e => e ≠ 1) (fX11_hold 0 x M) M n (fun v w1 => B01 v ∧ St w w1) := by
  obtain ⟨hR, hV, ⟨⟨hC, hA, hS, hH, hI, hT, hK, hL, hE⟩, hY, hM⟩, hO, -⟩ := id hr
  have hc := cs_hold hR hC hI x
  have hb := hC.2.2.1
  cases q : inb x (w 1542)
  · rw [q, if_f] at hc
    exact Or.inl ⟨_, by decide, hc⟩
  · rw [q, if_t] at hc
    cases q2 : decide (w (570 + x.toNat) ≤ 1)
    · rw [q2, if_f] at hc
      exact Or.inl ⟨_, by decide, hc⟩
    · rw [q2, if_t] at hc
      obtain ⟨a, rfl, ha⟩ := inb_t q
      rw [Int.toNat_natCast] at hc q2
      refine Or.inr ⟨_, _, ups w (610 + a) (bi (decide (w (610 + a) = 0))), T, hc, ⟨hR.iheld_up (by omega), hV.up (by omega) (by omega) (by omega) (by omega) (by omega) (by omega) (by omega), tol hO (by omega), ⟨⟨hC.fr (fun j _ _ => ups_ne (by omega)), hA.fr hC (fun j _ => ups_ne (by omega)), hS.fr (fun j _ => ups_ne (by omega)), hH.fr (fun j _ => ups_ne (by omega)), ?_, hT.fr hC (fun j _ => ups_ne (by omega)), hK.fr (fun j _ => ups_ne (by omega)), hL.fr (fun j _ => ups_ne (by omega)), hE.fr (fun j _ => ups_ne (by omega))⟩, hY.fr (fun j _ => ups_ne (by omega)), (hM.mono (by omega)).fr (fun j _ _ => ups_ne (by omega))⟩, frx (fr0 M) (by omega)⟩, ⟨bi_b _, ⟨fun j hj => ups_ne (by omega), fun i hi _ z => by rw [ups_ne (by omega)] at z; exact z⟩⟩⟩
      exact hI.flag hC (Or.inl rfl) (by cases decide (w (610 + a) = 0); exact Or.inl rfl; exact Or.inr rfl) ha (by omega)
theorem kop_recall {M : xM} {w T : Nat → Int} {n : Nat} (hr : Cx M w T n) (x : Int) : OKe (fun e => e ≠ 1) (fX11_recall 0 x M) M n (fun v w1 => (0 ≤ v ∧ v ≤ KQ w) ∧ St w w1) := by
  obtain ⟨hR, hV, ⟨⟨hC, hA, hS, hH, hI, hT, hK, hL, hE⟩, hY, hM⟩, hO, -⟩ := id hr
  have hc := cs_recall hR hC hL x
  have hb := hC.2.2.2.2.2.1
  cases q : inb x (w 1545)
  · rw [q, if_f] at hc
    exact Or.inl ⟨_, by decide, hc⟩
  · rw [q, if_t] at hc
    cases q2 : decide (0 ≤ w (990 + x.toNat)) && decide (w (1030 + x.toNat) = 0)
    · rw [q2, if_f] at hc
      exact Or.inl ⟨_, by decide, hc⟩
    · rw [q2, if_t] at hc
      obtain ⟨l, rfl, hl⟩ := inb_t q
      rw [Int.toNat_natCast] at hc q2
      refine Or.inr ⟨_, _, ups w (1030 + l) 1, T, hc, ⟨hR.lrec_up (by omega) hl, hV.up (by omega) (by omega) (by omega) (by omega) (by omega) (by omega) (by omega), tol hO (by omega), ⟨⟨hC.fr (fun j _ _ => ups_ne (by omega)), hA.fr hC (fun j _ => ups_ne (by omega)), hS.fr (fun j _ => ups_ne (by omega)), hH.fr (fun j _ => ups_ne (by omega)), hI.fr hC (fun j _ => ups_ne (by omega)), hT.fr hC (fun j _ => ups_ne (by omega)), hK.fr (fun j _ => ups_ne (by omega)), ?_, hE.fr (fun j _ => ups_ne (by omega))⟩, hY.fr (fun j _ => ups_ne (by omega)), (hM.mono (by omega)).fr (fun j _ _ => ups_ne (by omega))⟩, frx (fr0 M) (by omega)⟩, ⟨by have := (hL l (by omega) hl).2.2.2.1; have := of_decide_eq_true (and_tt q2).1; omega, ⟨fun j hj => ups_ne (by omega), fun i hi _ z => by rw [ups_ne (by omega)] at z; exact z⟩⟩⟩
      intro i hi hil
      rw [ups_ne (by omega)] at hil
      have k := hL i hi hil
      rw [ups_ne (i := 930 + i) (by omega), ups_ne (i := 950 + i) (by omega), ups_ne (i := 970 + i) (by omega), ups_ne (i := 990 + i) (by omega), ups_ne (i := 1010 + i) (by omega), ups_ne (i := 1540) (by omega), ups_ne (i := 1541) (by omega), KQ_eq (w := w) (fun e he => ups_ne (by omega))]
      refine ⟨k.1, k.2.1, k.2.2.1, k.2.2.2.1, k.2.2.2.2.1, ?_⟩
      unfold ups; split
      · exact Or.inr rfl
      · exact k.2.2.2.2.2
theorem kop_block {M : xM} {w T : Nat → Int} {n : Nat} (hr : Cx M w T n) (x y u : Int) : OKp (fX11_block 0 x y u M) M n (fun v w1 => (0 ≤ v ∧ v ≤ KQ w) ∧ St w w1) := by
  obtain ⟨hR, hV, ⟨⟨hC, hA, hS, hH, hI, hT, hK, hL, hE⟩, hY, hM⟩, hO, -⟩ := id hr
  have hc := cs_block hR hC x y u
  have hb := hC.1
  have hn := hC.2.1
  cases q : inb x (w 1540)
  · rw [q, if_f] at hc
    exact Or.inl ⟨_, hc⟩
  · rw [q, if_t] at hc
    cases q2 : inb y (w 1541)
    · rw [q2, if_f] at hc
      exact Or.inl ⟨_, hc⟩
    · rw [q2, if_t] at hc
      cases q3 : decide (0 ≤ u)
      · rw [q3, if_f] at hc
        exact Or.inl ⟨_, hc⟩
      · rw [q3, if_t] at hc
        obtain ⟨a, rfl, ha⟩ := inb_t q
        obtain ⟨s, rfl, hs⟩ := inb_t q2
        rw [Int.toNat_natCast, Int.toNat_natCast] at hc
        cases q4 : decide (u ≤ w (100 + 4 * a + s))
        · rw [q4, if_f] at hc
          exact Or.inl ⟨_, hc⟩
        · rw [q4, if_t] at hc
          exact Or.inr ⟨_, _, ups w (140 + 4 * a + s) u, T, hc, ⟨hR.blk_up (by omega) (by omega), hV.up (by omega) (by omega) (by omega) (by omega) (by omega) (by omega) (by omega), tol hO (by omega), ⟨⟨hC.fr (fun j _ _ => ups_ne (by omega)), hA.fr hC (fun j _ => ups_ne (by omega)), hS.fr (fun j _ => ups_ne (by omega)), hH.blkd (by omega) (by omega) (of_decide_eq_true q3) (of_decide_eq_true q4), hI.fr hC (fun j _ => ups_ne (by omega)), hT.fr hC (fun j _ => ups_ne (by omega)), hK.fr (fun j _ => ups_ne (by omega)), hL.fr (fun j _ => ups_ne (by omega)), hE.fr (fun j _ => ups_ne (by omega))⟩, hY.fr (fun j _ => ups_ne (by omega)), (hM.mono (by omega)).fr (fun j _ _ => ups_ne (by omega))⟩, frx (fr0 M) (by omega)⟩, ⟨by have := hH.le (a := a) (s := s) (by omega) (by omega); omega, ⟨fun j hj => ups_ne (by omega), fun i hi _ z => by rw [ups_ne (by omega)] at z; exact z⟩⟩⟩
theorem kop_link {M : xM} {w T : Nat → Int} {n : Nat} (hr : Cx M w T n) {b : Int} (hb1 : B01 b) (x y : Int) : OKp (fX11_link 0 x y b M) M n (fun v w1 => (0 ≤ v ∧ v ≤ 100) ∧ St w w1) := by
  obtain ⟨hR, hV, ⟨⟨hC, hA, hS, hH, hI, hT, hK, hL, hE⟩, hY, hM⟩, hO, -⟩ := id hr
  have hc := cs_link hR hC hT x y b
  have hb := hC.2.2.2.1
  have hn := hC.2.2.2.2.1
  cases q : inb x (w 1543)
  · rw [q, if_f] at hc
    exact Or.inl ⟨_, hc⟩
  · rw [q, if_t] at hc
    cases q2 : inb y (w 1543)
    · rw [q2, if_f] at hc
      exact Or.inl ⟨_, hc⟩
    · rw [q2, if_t] at hc
      cases q3 : decide (x ≠ y)
      · rw [q3, if_f] at hc
        exact Or.inl ⟨_, hc⟩
      · rw [q3, if_t] at hc
        cases q4 : gLn w x.toNat y.toNat
        · rw [q4, if_f] at hc
          exact Or.inl ⟨_, hc⟩
        · rw [q4, if_t] at hc
          obtain ⟨t, rfl, ht⟩ := inb_t q
          obtain ⟨o, rfl, ho⟩ := inb_t q2
          obtain ⟨k, hk⟩ := ex_nat hn.1
          have hk10 : (k : Int) < 10 := by
            have := of_decide_eq_true (and_tt (and_tt q4).2).2; omega
          have ek : (w 1544).toNat = k := by omega
          rw [ek] at hc
          refine Or.inr ⟨_, _, wLn w k (t : Int) (o : Int) b, T, hc, ⟨?_, ?_, tol (tol (tol (tol hO (by omega)) (by omega)) (by omega)) (by omega), ⟨⟨?_, hA.fr hC (fun j _ => by unfold wLn; simp (disch := omega) only [ups_ne]), hS.fr (fun j _ => by unfold wLn; simp (disch := omega) only [ups_ne]), hH.fr (fun j _ => by unfold wLn; simp (disch := omega) only [ups_ne]), hI.fr hC (fun j _ => by unfold wLn; simp (disch := omega) only [ups_ne]), hT.fr hC (fun j _ => by unfold wLn; simp (disch := omega) only [ups_ne]), ?_, hL.fr (fun j _ => by unfold wLn; simp (disch := omega) only [ups_ne]), hE.fr (fun j _ => by unfold wLn; simp (disch := omega) only [ups_ne])⟩, hY.fr (fun j _ => by unfold wLn; simp (disch := omega) only [ups_ne]), (hM.mono (by omega)).fr (fun j _ _ => by unfold wLn; simp (disch := omega) only [ups_ne])⟩, frx (frx (frx (frx (fr0 M) (by omega)) (by omega)) (by omega)) (by omega)⟩, ⟨by have := hC.2.2.2.2.1; omega, fun j hj => by unfold wLn; simp (disch := omega) only [ups_ne], fun i hi _ z => by unfold wLn at z; simp (disch := omega) only [ups_ne] at z; exact z⟩⟩
          · refine (((hR.kfst_up (k := k) (by omega)).ksnd_up (by omega)).kwit_up (by omega)).cntK (fun i hi h1 h2 => ?_)
            rw [ups_ne (by omega), ups_ne (by omega), ups_ne (by omega)] at h2
            have ei : i = k := by omega
            subst ei
            rw [xup_k (by omega), xup_k (by omega), xup_same, xup_k (by omega), xup_same, xup_same, ups_ne (i := 890 + i) (by omega), ups_ne (i := 890 + i) (by omega), ups_same, ups_ne (i := 900 + i) (by omega), ups_same, ups_same]
            exact ⟨rfl, rfl, rfl⟩
          · exact (((hV.up (by omega) (by omega) (by omega) (by omega) (by omega) (by omega) (by omega)).up (by omega) (by omega) (by omega) (by omega) (by omega) (by omega) (by omega)).up (by omega) (by omega) (by omega) (by omega) (by omega) (by omega) (by omega)).up (by omega) (by omega) (by omega) (by omega) (by omega) (by omega) (by omega)
          · unfold IC wLn
            simp (disch := omega) only [ups_ne, ups_same]
            exact ⟨hC.1, hC.2.1, hC.2.2.1, hC.2.2.2.1, by omega, hC.2.2.2.2.2⟩
          · intro i hi hl
            unfold wLn at hl ⊢
            rw [ups_same] at hl
            by_cases z : i = k
            · subst z; simp (disch := omega) only [ups_ne, ups_same]; exact ⟨by omega, by omega, hb1⟩
            · have kk := hK i hi (by omega)
              simp (disch := omega) only [ups_ne]; exact kk
theorem kop_open {M : xM} {w T : Nat → Int} {n : Nat} (hr : Cx M w T n) {b : Int} (c t h l : Int) : OKe (fun _ => (oOk w c && ((rg t 0 2 && (rg h 0 1000000 && rg l 0 1000000)) && oSt w c)) = false) (fX11_open 0 c b t h l M) M n (fun v w1 => v = w 1540 ∧ ∃ p : Int, w1 = wOp w (w 1540).toNat c p t h l) := by
  obtain ⟨hR, hV, ⟨⟨hC, hA, hS, hH, hI, hT, hK, hL, hE⟩, hY, hM⟩, hO, -⟩ := id hr
  have hc := cs_open hR hC c b t h l
  have hb := hC.1
  cases q : oOk w c
  · rw [q, if_f] at hc
    exact Or.inl ⟨_, rfl, hc⟩
  · rw [q, if_t] at hc
    cases q2 : rg t 0 2 && (rg h 0 1000000 && rg l 0 1000000)
    · rw [q2, if_f] at hc
      exact Or.inl ⟨_, rfl, hc⟩
    · rw [q2, if_t] at hc
      cases q3 : oSt w c
      · rw [q3, if_f] at hc
        exact Or.inl ⟨_, rfl, hc⟩
      · rw [q3, if_t] at hc
        obtain ⟨a, ha⟩ := ex_nat hb.1
        have ea : (w 1540).toNat = a := by omega
        rw [ea] at hc
        have r1 := rg_t (and_tt q2).1
        have r2 := rg_t (and_tt (and_tt q2).2).1
        have r3 := rg_t (and_tt (and_tt q2).2).2
        have h10 : w 1540 < 10 := of_decide_eq_true (and_tt q3).2
        have hp : B01 (oPl c b) := by unfold oPl; split; exact Or.inl rfl; split; exact Or.inl rfl; exact Or.inr rfl
        have hcu : c = -1 ∨ (0 ≤ c ∧ c < w 1540 ∧ w c.toNat = -1) := by
          unfold oOk at q
          unfold oSt at q3
          by_cases z : c = -1
          · exact Or.inl z
          · rw [decide_eq_false z, Bool.false_or] at q q3
            obtain ⟨d, rfl, hd⟩ := inb_t q
            exact Or.inr ⟨by omega, hd, of_decide_eq_true (and_tt q3).1⟩
        have hp1 : oPl c b = 1 → 0 ≤ c := fun z => by
          unfold oPl at z
          rcases hcu with k | k
          · rw [if_pos k, ite_self] at z; omega
          · exact k.1
        refine Or.inr ⟨_, _, wOp w a c (oPl c b) t h l, T, hc, ⟨?_, ?_, tol (tol (tol (tol (tol (tol hO (by omega)) (by omega)) (by omega)) (by omega)) (by omega)) (by omega), ⟨⟨?_, ?_, hS.fr (fun j _ => by unfold wOp; simp (disch := omega) only [ups_ne]), ?_, ?_, hT.fr hC (fun j _ => by unfold wOp; simp (disch := omega) only [ups_ne]), hK.fr (fun j _ => by unfold wOp; simp (disch := omega) only [ups_ne]), ?_, hE.fr (fun j _ => by unfold wOp; simp (disch := omega) only [ups_ne])⟩, hY.fr (fun j _ => by unfold wOp; simp (disch := omega) only [ups_ne]), ?_⟩, frx (frx (frx (frx (frx (frx (fr0 M) (by omega)) (by omega)) (by omega)) (by omega)) (by omega)) (by omega)⟩, ⟨rfl, oPl c b, by rw [ea]⟩⟩
        · refine (((((hR.cust_up (a := a) (by omega)).pool_up (by omega)).country_up (by omega)).cash_up (by omega)).line_up (by omega)).cntA (by omega) (by simp (disch := omega) only [ups_ne]; exact ha) ?_ rfl
          simp (disch := omega) only [xup_k, xup_same, ups_ne, ups_same]
        · exact (((((hV.up (by omega) (by omega) (by omega) (by omega) (by omega) (by omega) (by omega)).up (by omega) (by omega) (by omega) (by omega) (by omega) (by omega) (by omega)).up (by omega) (by omega) (by omega) (by omega) (by omega) (by omega) (by omega)).up (by omega) (by omega) (by omega) (by omega) (by omega) (by omega) (by omega)).up (by omega) (by omega) (by omega) (by omega) (by omega) (by omega) (by omega)).up (by omega) (by omega) (by omega) (by omega) (by omega) (by omega) (by omega)
        · unfold IC wOp
          simp (disch := omega) only [ups_ne, ups_same]
          exact ⟨by omega, hC.2⟩
        · intro d hd
          have kd := hA d hd
          unfold wOp
          by_cases z : d = a
          · subst z
            have k3 : oPl c b = 1 → (d : Int) < (d : Int) + 1 ∧ 0 ≤ c ∧ wOp w d c (oPl c b) t h l (10 + c.toNat) = 0 := fun z => by
              have hc0 := hp1 z
              rcases hcu with k | k
              · omega
              · refine ⟨by omega, hc0, ?_⟩
                unfold wOp
                have kc := hA c.toNat (by omega)
                simp (disch := omega) only [ups_ne]
                rcases kc.2.1 with k4 | k4
                · exact k4
                · have := kc.2.2.2.2.2.2 k4; omega
            unfold wOp at k3
            simp (disch := omega) only [ups_ne, ups_same] at k3 ⊢
            exact ⟨by omega, hp, kd.2.2.1, kd.2.2.2.1, by omega, fun _ => by omega, k3⟩
          · have k3 : w (10 + d) = 1 → (d : Int) < (a : Int) + 1 ∧ 0 ≤ w d ∧ wOp w a c (oPl c b) t h l (10 + (w d).toNat) = 0 := fun z => by
              have k4 := kd.2.2.2.2.2.2 z
              have k5 := kd.2.2.2.2.2.1 k4.1
              refine ⟨by omega, k4.2.1, ?_⟩
              unfold wOp
              simp (disch := omega) only [ups_ne]; exact k4.2.2
            unfold wOp at k3
            simp (disch := omega) only [ups_ne, ups_same] at k3 ⊢
            exact ⟨kd.1, kd.2.1, kd.2.2.1, kd.2.2.2.1, kd.2.2.2.2.1, fun z => by have := kd.2.2.2.2.2.1 (by omega); omega, k3⟩
        · refine ⟨fun d s hd hs => ?_, fun s hs => ?_⟩
          · have kd := hH.1 d s hd hs
            unfold wOp
            simp (disch := omega) only [ups_ne, ups_same]
            exact ⟨kd.1, kd.2.1, fun z => kd.2.2.1 (by omega), kd.2.2.2⟩
          · unfold wOp
            rw [sm_eq (g := fun a => w (100 + 4 * a + s)) 10 (fun b hb => by simp (disch := omega) only [ups_ne]), KQ_eq (w := w) (fun e he => by simp (disch := omega) only [ups_ne])]
            simp (disch := omega) only [ups_ne]; exact hH.2 s hs
        · exact hI.mono hC (fun j _ => by unfold wOp; simp (disch := omega) only [ups_ne]) (by unfold wOp; rw [ups_same]; omega) (by unfold wOp; simp (disch := omega) only [ups_ne]; exact Int.le_refl _)
        · exact hL.mono (fun j _ => by unfold wOp; simp (disch := omega) only [ups_ne]) (by unfold wOp; rw [ups_same]; omega) (by unfold wOp; simp (disch := omega) only [ups_ne]; exact Int.le_refl _)
        · intro d hd
          have kd := hM d hd
          unfold wOp
          by_cases z : d = a
          · subst z; simp (disch := omega) only [ups_ne, ups_same]; omega
          · simp (disch := omega) only [ups_ne]; omega
theorem kop_issue {M : xM} {w T : Nat → Int} {n : Nat} (hr : Cx M w T n) (x t u p r : Int) : OKe (fun _ => (inb x (w 1540) && (iRg t u p r && decide (w 1541 < 4))) = false) (fX11_issue 0 x t u p r M) M n (fun v w1 => v = w 1541 ∧ w1 = wIs w x.toNat (w 1541).toNat t u p r) := by
  obtain ⟨hR, hV, ⟨⟨hC, hA, hS, hH, hI, hT, hK, hL, hE⟩, hY, hM⟩, hO, -⟩ := id hr
  have hc := cs_issue hR hV hC x t u p r
  have hb := hC.1
  have hn := hC.2.1
  cases q : inb x (w 1540)
  · rw [q, if_f] at hc
    exact Or.inl ⟨_, rfl, hc⟩
  · rw [q, if_t] at hc
    cases q2 : iRg t u p r
    · rw [q2, if_f] at hc
      exact Or.inl ⟨_, rfl, hc⟩
    · rw [q2, if_t] at hc
      cases q3 : decide (w 1541 < 4)
      · rw [q3, if_f] at hc
        exact Or.inl ⟨_, rfl, hc⟩
      · rw [q3, if_t] at hc
        obtain ⟨a, rfl, ha⟩ := inb_t q
        obtain ⟨s, hs⟩ := ex_nat hn.1
        have es : (w 1541).toNat = s := by omega
        have h4 : w 1541 < 4 := of_decide_eq_true q3
        rw [es, Int.toNat_natCast] at hc
        have r1 := rg_t (and_tt q2).1
        have r2 := rg_t (and_tt (and_tt q2).2).1
        have r3 := rg_t (and_tt (and_tt (and_tt q2).2).2).1
        have r4 := rg_t (and_tt (and_tt (and_tt q2).2).2).2
        have h0 : ∀ d : Nat, d < 10 → w (100 + 4 * d + s) = 0 := fun d hd => (hH.1 d s hd (by omega)).2.2.2 (by omega)
        have h0a := h0 a (by omega)
        have eh : M (13 + 4 * a) s = w (100 + 4 * a + s) := hR.held (by omega) (by omega)
        refine Or.inr ⟨_, _, wIs w a s t u p r, T, hc, ⟨?_, ?_, tol (tol (tol (tol (tol (tol (tol hO (by omega)) (by omega)) (by omega)) (by omega)) (by omega)) (by omega)) (by omega), ⟨⟨?_, hA.fr hC (fun j _ => by unfold wIs; simp (disch := omega) only [ups_ne]), ?_, ?_, ?_, hT.fr hC (fun j _ => by unfold wIs; simp (disch := omega) only [ups_ne]), hK.fr (fun j _ => by unfold wIs; simp (disch := omega) only [ups_ne]), ?_, ?_⟩, hY.fr (fun j _ => by unfold wIs; simp (disch := omega) only [ups_ne]), (hM.mono (by omega)).fr (fun j _ _ => by unfold wIs; simp (disch := omega) only [ups_ne])⟩, frx (frx (frx (frx (frx (frx (frx (fr0 M) (by omega)) (by omega)) (by omega)) (by omega)) (by omega)) (by omega)) (by omega)⟩, ⟨rfl, by rw [es, Int.toNat_natCast]⟩⟩
        · unfold mIs; rw [eh]
          exact ((((((hR.scty_up (s := s) (by omega)).price_up (by omega)).rate_up (by omega)).sout_up (by omega)).nS_up).held_up (by omega) (by omega)).cls1 (frc_mov a (by omega) _ (by have := np_le w 10; omega))
        · have v1 := (((((hV.up (by omega) (by omega) (by omega) (by omega) (by omega) (by omega) (by omega) : MV (xup M (56 + s) 0 t) (ups w (180 + s) t)).up (by omega) (by omega) (by omega) (by omega) (by omega) (by omega) (by omega) : MV (xup (xup M (56 + s) 0 t) (56 + s) 1 p) (ups (ups w (180 + s) t) (184 + s) p)).up (by omega) (by omega) (by omega) (by omega) (by omega) (by omega) (by omega) : MV (xup (xup (xup M (56 + s) 0 t) (56 + s) 1 p) (56 + s) 2 r) (ups (ups (ups w (180 + s) t) (184 + s) p) (188 + s) r)).up (by omega) (by omega) (by omega) (by omega) (by omega) (by omega) (by omega) : MV (xup (xup (xup (xup M (56 + s) 0 t) (56 + s) 1 p) (56 + s) 2 r) (56 + s) 3 u) (ups (ups (ups (ups w (180 + s) t) (184 + s) p) (188 + s) r) (192 + s) u)).up (by omega) (by omega) (by omega) (by omega) (by omega) (by omega) (by omega) : MV (xup (xup (xup (xup (xup M (56 + s) 0 t) (56 + s) 1 p) (56 + s) 2 r) (56 + s) 3 u) 3 10 ((s : Int) + 1)) (ups (ups (ups (ups (ups w (180 + s) t) (184 + s) p) (188 + s) r) (192 + s) u) 1541 ((s : Int) + 1)))
          have v2 := v1.cell (c := 13 + 4 * a) (k := s) (v := w64 (M (13 + 4 * a) s + u)) (by omega) (by omega) (by omega)
          have v3 := v2.move (a := a) (s := s) (c := u) (by omega) (by omega) (fun e he hn => by
            have k := hE.sec4 hC e he
            simp (disch := omega) only [ups_ne] at hn ⊢
            exact k hn)
          have en : np (ups (ups (ups (ups (ups w (180 + s) t) (184 + s) p) (188 + s) r) (192 + s) u) 1541 ((s : Int) + 1)) 10 = np w 10 := np_eq (fun e he => by simp (disch := omega) only [ups_ne]) 10 (by omega)
          rw [en] at v3
          simp (disch := omega) only [xup_c (a := 15 + 4 * a), ups_ne (i := 100 + 4 * a + s)] at v3
          exact v3
        · unfold IC wIs
          simp (disch := omega) only [ups_ne, ups_same]
          exact ⟨hC.1, by omega, hC.2.2⟩
        · refine ⟨fun d hd => ?_, fun k hk => ?_⟩
          · have kd := hS.1 d hd
            unfold wIs
            by_cases z : d = s
            · subst z
              simp (disch := omega) only [ups_ne, ups_same]; omega
            · simp (disch := omega) only [ups_ne, ups_same]
              exact ⟨kd.1, kd.2.1, kd.2.2.1, fun z => kd.2.2.2 (by omega)⟩
          · unfold wIs
            simp (disch := omega) only [ups_ne]; exact hS.2 k hk
        · have ev : w64 (w (100 + 4 * a + s) + u) = u := by rw [h0a, Int.zero_add, w64_i (by omega) (by omega)]
          refine ⟨fun d e hd he => ?_, fun e he => ?_⟩
          · have kd := hH.1 d e hd he
            unfold wIs
            rw [ev]
            by_cases z : d = a ∧ e = s
            · obtain ⟨rfl, rfl⟩ := z
              have k0 := h0 d hd
              simp (disch := omega) only [ups_ne, ups_same]
              exact ⟨kd.1, by omega, fun z => by omega, fun z => by omega⟩
            · simp (disch := omega) only [ups_ne, ups_same]
              exact ⟨kd.1, kd.2.1, kd.2.2.1, fun z => kd.2.2.2 (by omega)⟩
          · have hK : KQ (wIs w a s t u p r) = KQ w := KQ_eq (fun e he => by unfold wIs; simp (disch := omega) only [ups_ne])
            rw [hK]
            have kq := KQ_ge w
            by_cases z : e = s
            · subst z
              rw [sm_up (f := fun d => w (100 + 4 * d + e)) (b := a) 10 (by omega) (fun d hd hne => by unfold wIs; simp (disch := omega) only [ups_ne])]
              have e0 : sm (fun d => w (100 + 4 * d + e)) 10 = 0 := by
                rw [sm_eq (g := fun _ => 0) 10 h0]; decide
              rw [e0]
              unfold wIs
              rw [ev]
              simp (disch := omega) only [ups_ne, ups_same]
              rw [h0a]; omega
            · rw [sm_eq (g := fun d => w (100 + 4 * d + e)) 10 (fun d hd => by unfold wIs; simp (disch := omega) only [ups_ne])]
              unfold wIs
              simp (disch := omega) only [ups_ne]; exact hH.2 e he
        · exact hI.mono hC (fun j _ => by unfold wIs; simp (disch := omega) only [ups_ne]) (by unfold wIs; simp (disch := omega) only [ups_ne]; exact Int.le_refl _) (by unfold wIs; simp (disch := omega) only [ups_ne, ups_same]; omega)
        · exact hL.mono (fun j _ => by unfold wIs; simp (disch := omega) only [ups_ne]) (by unfold wIs; simp (disch := omega) only [ups_ne]; exact Int.le_refl _) (by unfold wIs; simp (disch := omega) only [ups_ne, ups_same]; omega)
        · exact hE.mono (fun j _ => by unfold wIs; simp (disch := omega) only [ups_ne]) (by unfold wIs; simp (disch := omega) only [ups_ne, ups_same]; omega)
theorem kop_announce {M : xM} {w T : Nat → Int} {n : Nat} (hr : Cx M w T n) (k x a b c r p : Int) : OKp (fX11_announce 0 k x a b c r p M) M n (fun v w1 => v = w 1546 ∧ w1 1546 = w 1546 + 1 ∧ ∀ j, j < 10 ∨ (80 ≤ j ∧ j < 90) ∨ (570 ≤ j ∧ j < 610) ∨ (650 ≤ j ∧ j < 690) ∨ (730 ≤ j ∧ j < 770) ∨ (1130 ≤ j ∧ j < 1140) ∨ (1540 ≤ j ∧ j < 1544) ∨ j = 1547 → w1 j = w j) := by
  obtain ⟨hR, hV, ⟨⟨hC, hA, hS, hH, hI, hT, hK, hL, hE⟩, hY, hM⟩, hO, -⟩ := id hr
  have hc := cs_announce hR hC k x a b c r p
  have hn := hC.2.2.2.2.2.2.1
  cases q : inb x (w 1541)
  · rw [q, if_f] at hc
    exact Or.inl ⟨_, hc⟩
  · rw [q, if_t] at hc
    cases q2 : aRg w k a b c r p
    · rw [q2, if_f] at hc
      exact Or.inl ⟨_, hc⟩
    · rw [q2, if_t] at hc
      cases q3 : decide (w 1546 < 10)
      · rw [q3, if_f] at hc
        exact Or.inl ⟨_, hc⟩
      · rw [q3, if_t] at hc
        obtain ⟨s, rfl, hs⟩ := inb_t q
        obtain ⟨e, he⟩ := ex_nat hn.1
        have ee : (w 1546).toNat = e := by omega
        have h10 : w 1546 < 10 := of_decide_eq_true q3
        rw [ee] at hc
        have r1 := rg_t (and_tt q2).1
        have r2 := rg_t (and_tt (and_tt q2).2).1
        have r3 := (and_tt (and_tt (and_tt q2).2).2).1
        have r4 := (and_tt (and_tt (and_tt (and_tt q2).2).2).2).1
        have r5 := rg_t (and_tt (and_tt (and_tt (and_tt (and_tt q2).2).2).2).2).1
        have r6 := rg_t (and_tt (and_tt (and_tt (and_tt (and_tt q2).2).2).2).2).2
        have kE := hE e (by omega)
        have kz := kE.2.1 (by omega)
        have hd := hC.2.2.2.2.2.2.2
        refine Or.inr ⟨_, _, wAn w e k (s : Int) a b c r p, T, hc, ⟨?_, ?_, (tol (tol (tol (tol (tol (tol (tol (tol hO (by omega)) (by omega)) (by omega)) (by omega)) (by omega)) (by omega)) (by omega)) (by omega)), ⟨⟨?_, hA.fr hC (fun j _ => by unfold wAn; simp (disch := omega) only [ups_ne]), hS.fr (fun j _ => by unfold wAn; simp (disch := omega) only [ups_ne]), hH.fr (fun j _ => by unfold wAn; simp (disch := omega) only [ups_ne]), hI.fr hC (fun j _ => by unfold wAn; simp (disch := omega) only [ups_ne]), hT.fr hC (fun j _ => by unfold wAn; simp (disch := omega) only [ups_ne]), hK.fr (fun j _ => by unfold wAn; simp (disch := omega) only [ups_ne]), hL.fr (fun j _ => by unfold wAn; simp (disch := omega) only [ups_ne]), ?_⟩, ?_, (hM.mono (by omega)).fr (fun j _ _ => by unfold wAn; simp (disch := omega) only [ups_ne])⟩, (frx (frx (frx (frx (frx (frx (frx (frx (fr0 M) (by omega)) (by omega)) (by omega)) (by omega)) (by omega)) (by omega)) (by omega)) (by omega))⟩, ⟨rfl, by unfold wAn; simp (disch := omega) only [ups_ne, ups_same]; omega, fun j hj => by unfold wAn; simp (disch := omega) only [ups_ne]⟩⟩
        · exact (((((((hR.ekin_up (e := e) (by omega)).esec_up (by omega)).ea_up (by omega)).eb_up (by omega)).ecap_up (by omega)).erec_up (by omega)).epay_up (by omega)).nE_up
        · unfold mAn
          refine hV.fr (by simp (disch := omega) only [xup_c, xup_k]) (fun d hd => by simp (disch := omega) only [xup_row]) (fun d hd => ?_) (fun j _ _ => by unfold wAn; simp (disch := omega) only [ups_ne]) (fun d hd => by unfold wAn; simp (disch := omega) only [ups_ne]) (fun d hd hnn => ?_) (fun j _ _ => by unfold wAn; simp (disch := omega) only [ups_ne])
          · simp (disch := omega) only [xup_ne]
          · have hde : d ≠ e := fun z => by rw [z, kz.1] at hnn; omega
            unfold wAn
            simp (disch := omega) only [ups_ne]
        · unfold IC wAn
          simp (disch := omega) only [ups_ne, ups_same]
          exact ⟨hC.1, hC.2.1, hC.2.2.1, hC.2.2.2.1, hC.2.2.2.2.1, hC.2.2.2.2.2.1, by omega, hC.2.2.2.2.2.2.2⟩
        · intro d hd2
          have kd := hE d hd2
          have hK : KQ (wAn w e k (s : Int) a b c r p) = KQ w := KQ_eq (fun e he => by unfold wAn; simp (disch := omega) only [ups_ne])
          have f1 : ∀ t : Nat, t < 10 → wAn w e k (s : Int) a b c r p (1140 + 10 * d + t) = w (1140 + 10 * d + t) := fun t ht => by unfold wAn; simp (disch := omega) only [ups_ne]
          have f2 : ∀ t : Nat, t < 10 → wAn w e k (s : Int) a b c r p (1240 + 10 * d + t) = w (1240 + 10 * d + t) := fun t ht => by unfold wAn; simp (disch := omega) only [ups_ne]
          have f3 : ∀ t : Nat, t < 20 → wAn w e k (s : Int) a b c r p (1340 + 20 * d + t) = w (1340 + 20 * d + t) := fun t ht => by unfold wAn; simp (disch := omega) only [ups_ne]
          obtain ⟨k1, k2, k3, k4, k5, k6, k7⟩ := kd
          rw [hK]
          refine ⟨?_, ?_, ?_, ?_, fun q => ⟨fun t ht => ?_, fun t ht => ?_⟩, fun t ht => ?_, fun t ht => ?_⟩
          · unfold wAn
            by_cases z : d = e
            · subst z
              simp (disch := omega) only [ups_ne, ups_same]
              intro _
              have hk1 : k = 1 → a ≤ 3 ∧ 1 ≤ b ∧ b ≤ 3 := fun z => by
                rw [if_pos z] at r2
                rw [decide_eq_false (by omega), Bool.false_or, if_pos z] at r3
                have := rg_t r3
                omega
              have hk2 : k = 2 → 1 ≤ b ∧ b ≤ 10 ∧ 0 ≤ c ∧ c ≤ 100000 := fun z => by
                rw [decide_eq_false (by omega), Bool.false_or, if_neg (by omega)] at r3
                rw [decide_eq_false (not_not_intro z), Bool.false_or] at r4
                have := rg_t r3
                have := rg_t r4
                omega
              have ha2 : a ≤ 1000 := by have := r2.2; split at this <;> omega
              exact ⟨by omega, by omega, ⟨r2.1, ha2⟩, hk1, hk2, by omega⟩
            · simp (disch := omega) only [ups_ne, ups_same]
              exact fun z => k1 (by omega)
          · unfold wAn
            simp (disch := omega) only [ups_ne, ups_same]
            exact fun z => k2 (by omega)
          · unfold wAn
            simp (disch := omega) only [ups_ne, ups_same]; exact k3
          · unfold wAn
            simp (disch := omega) only [ups_ne, ups_same]; exact k4
          · have q' : w (1120 + d) = 0 := by
              rw [← q]; unfold wAn; simp (disch := omega) only [ups_ne]
            rw [f1 t ht, f2 t ht]; exact (k5 q').1 t ht
          · have q' : w (1120 + d) = 0 := by
              rw [← q]; unfold wAn; simp (disch := omega) only [ups_ne]
            rw [f3 t ht]; exact (k5 q').2 t ht
          · rw [f1 t ht, f2 t ht]; exact k6 t ht
          · rw [f3 t ht]
            refine ⟨(k7 t ht).1, (k7 t ht).2.1, fun y => ?_⟩
            by_cases z : d = e
            · subst z; exact (k5 kz.1).2 t ht
            · exact (k7 t ht).2.2 (by rw [← y]; unfold wAn; simp (disch := omega) only [ups_ne])
        · intro d hd2 hl
          unfold wAn at hl ⊢
          rw [ups_same] at hl
          by_cases z : d = e
          · subst z
            simp (disch := omega) only [ups_ne, ups_same]
            rw [kz.1, kz.2]
            exact ⟨⟨fun z => by omega, fun z => by omega⟩, ⟨fun z => by omega, fun z => by omega⟩⟩
          · simp (disch := omega) only [ups_ne, ups_same]
            exact hY d hd2 (by omega)
theorem kop_cancel {M : xM} {w T : Nat → Int} {n : Nat} (hr : Cx M w T n) (x : Int) : OKe (fun e => e ≠ 1) (fX11_cancel 0 x M) M n (fun v w1 => B01 v ∧ St w w1) := by
  obtain ⟨hR, hV, ⟨h0, hY, hM⟩, hO, -⟩ := id hr
  obtain ⟨hC, hA, hS, hH, hI, hT, hK, hL, hE⟩ := id h0
  have hb := hC.2.2.1
  have hb3 := hC.2.2.2.1
  have hbA := hC.1
  cases q : inb x (w 1542)
  · exact Or.inl ⟨0, by decide, by unfold fX11_cancel; rw [c_needI hR, q]; rfl⟩
  · obtain ⟨i, rfl, hi⟩ := inb_t q
    have kI := (hI i (by omega)).1 hi
    have hs := kI.2.2.2.2.2.2.2.2.2.1
    by_cases z1 : w (570 + i) ≤ 1
    · by_cases z0 : w (570 + i) = 0
      · -- an OPEN one
        obtain ⟨a, ha⟩ := ex_nat kI.1.1
        have ha10 : a < 10 := by omega
        refine Or.inr ⟨_, xup (xup M (61 + i) 9 3) 2 a (w32 (xup M (61 + i) 9 3 2 a + 1)), ups w (570 + i) 3, sTel T a, ?_, ⟨(hR.ist_up (by omega)).fr (fun c _ _ => xup_row (by omega)), (hV.up (by omega) (by omega) (by omega) (by omega) (by omega) (by omega) (by omega)).frM (fun c _ _ => xup_row (by omega)), (told.c (T := T) hO (by omega)).tel ha10, ⟨h0.ican hi z0, hY.fr (fun j _ => ups_ne (by omega)), (hM.mono (by omega)).fr (fun j _ _ => ups_ne (by omega))⟩, frx (frx (fr0 M) (by omega)) (by omega)⟩, ⟨bi_b true, fun j hj => ups_ne (by omega), fun i2 hi2 _ z => by unfold ups at z; split at z; omega; exact z⟩⟩
        · unfold fX11_cancel fX1_cancelInstruction
          rw [c_needI hR, q, if_t, xb_l, xr_0_1, c_ins (by omega), xb_l, Int.toNat_natCast, c_alive i M (by rw [hR.ist (by omega)]; omega), xb_l, hR.ist (by omega), decide_eq_true z1, c_sta, if_t, xb_l, hR.ist (by omega), if_pos z0, xput_b, xr_3_0, xup_k (by omega), hR.iacc (by omega), ha, c_tell ha10]; rfl
      · -- a MATCHED one
        have z2 : w (570 + i) = 1 := by omega
        obtain ⟨t1, t2, t3⟩ := kI.2.2.2.2.2.2.2.2.2.2.2.1 z2
        have t4 := kI.2.2.2.2.2.2.2.2.2.2.1
        obtain ⟨t, ht⟩ := ex_nat t1
        rw [ht] at t2 t3 t4
        rw [Int.toNat_natCast] at t2 t3
        have tt : (t : Int) < w 1543 := by omega
        have f := h0.tf tt
        have hw1 : Inv0 (ups w (690 + i) 1) := h0.flag (Or.inr rfl) (Or.inr rfl) hi
        have hR1 : R (xup M (61 + i) 12 1) (ups w (690 + i) 1) := hR.ican_up (by omega)
        have hV1 : MV (xup M (61 + i) 12 1) (ups w (690 + i) 1) := hV.up (by omega) (by omega) (by omega) (by omega) (by omega) (by omega) (by omega)
        have hO1 : told (xup M (61 + i) 12 1) T := told.c (T := T) hO (by omega)
        have f' := f.fr (w' := ups w (690 + i) 1) (fun j hj => ups_ne (by omega))
        obtain ⟨g0, g1, g2, g3, g4, g5, g6, g7, -⟩ := id f
        have tt1 : (t : Int) < ups w (690 + i) 1 1543 := by rw [ups_ne (by omega)]; exact tt
        have hC1 : IC (ups w (690 + i) 1) := hw1.1
        have k690 : ∀ d : Nat, d < 40 → (d : Int) < w 1542 → B01 (ups w (690 + i) 1 (690 + d)) := fun d hd hd2 => by
          have := ((hw1.2.2.2.2.1 d hd).1 (by rw [ups_ne (by omega)]; exact hd2)).2.2.2.2.2.2.2.2.2.2.2.2.2.2; exact this
        have kT := (hT t g0).1 tt
        have kd := k690 (di w t) g1 (by omega)
        have ke := k690 (ri w t) g2 (by omega)
        have hcls : ∀ F, (fX11_cancel 0 (i : Int) M = F) ↔ ((if ups w (690 + i) 1 (690 + di w t) = 0 then some (.inl 0, xup M (61 + i) 12 1) else (if ups w (690 + i) 1 (690 + ri w t) = 0 then some (.inl 0, xup M (61 + i) 12 1) else xb (fX1_cancelTrade 3 (102 + t) (xup M (61 + i) 12 1)) (fun _ M19 => xret 1 M19))) = F) := fun F => by
          have : fX11_cancel 0 (i : Int) M = (if ups w (690 + i) 1 (690 + di w t) = 0 then some (.inl 0, xup M (61 + i) 12 1) else (if ups w (690 + i) 1 (690 + ri w t) = 0 then some (.inl 0, xup M (61 + i) 12 1) else xb (fX1_cancelTrade 3 (102 + t) (xup M (61 + i) 12 1)) (fun _ M19 => xret 1 M19))) := by
            unfold fX11_cancel
            rw [c_needI hR, q, if_t, xb_l, xr_0_1, c_ins (by omega), xb_l, Int.toNat_natCast, c_alive i M (by rw [hR.ist (by omega)]; omega), xb_l, hR.ist (by omega), decide_eq_true z1, c_sta, if_t, xb_l, hR.ist (by omega), if_neg z0, xput_b, xup_k (by omega), hR.itr (by omega) hi, ht, c_trd (by omega), xb_l, Int.toNat_natCast, xup_c (a := 102 + t) (by omega), hR.tdel g0, g6, c_ins (by omega), xb_l, Int.toNat_natCast, hR1.ican g1, xup_c (a := 102 + t) (by omega), hR.trec g0, g7, c_ins (by omega), xb_l, Int.toNat_natCast, hR1.ican g2]; rfl
          rw [this]
        by_cases b1 : ups w (690 + i) 1 (690 + di w t) = 1
        · by_cases b2 : ups w (690 + i) 1 (690 + ri w t) = 1
          · obtain ⟨-, -, -, -, -, -, -, -, -, -, -, -, y1, y2⟩ := (hw1.2.2.2.2.2.1 t g0).1 tt1
            have qo : QD (ups w (690 + i) 1) (wOv (ups w (690 + i) 1) t 2) := QD.ov hC1 g0 f'.1.2.1 f'.1.2.2.1 y1 y2 2
            obtain ⟨M', c1, c2, c3, c4⟩ := c_ct hR1 hO1 hC1 f'.1 tt1
            refine Or.inr ⟨_, M', wOv (ups w (690 + i) 1) t 2, sTb (ups w (690 + i) 1) T t, ?_, ⟨c2, hV1.over hw1 tt1 c4, c3, ⟨hw1.over tt1 (by rw [ups_ne (by omega)]; exact t2) (Or.inr rfl), (hY.fr (w' := ups w (690 + i) 1) (fun j _ => ups_ne (by omega))).fr (fun j hj => wOv_far hw1 tt1 (by omega)), ((hM.mono (by omega)).fr (w' := ups w (690 + i) 1) (fun j _ _ => ups_ne (by omega))).fr (fun j _ _ => wOv_far hw1 tt1 (by omega))⟩, fun c hc => by rw [c4.fr c hc, xup_row (by omega)]⟩, ⟨bi_b true, fun j hj => by rw [wOv_far hw1 tt1 (by omega)]; exact ups_ne (by omega), fun i2 hi2 hz z => by rw [qo.2.1 i2 hi2 (by rw [ups_ne (by omega)]; exact hz), ups_ne (by omega)] at z; exact z⟩⟩
            rw [hcls, if_neg (by omega), if_neg (by omega), c1]; rfl
          · have b3 : ups w (690 + i) 1 (690 + ri w t) = 0 := by rcases ke with k | k; exact k; exact absurd k b2
            refine Or.inr ⟨_, xup M (61 + i) 12 1, ups w (690 + i) 1, T, ?_, ⟨hR1, hV1, hO1, ⟨hw1, hY.fr (fun j _ => ups_ne (by omega)), (hM.mono (by omega)).fr (fun j _ _ => ups_ne (by omega))⟩, frx (fr0 M) (by omega)⟩, ⟨bi_b false, fun j hj => ups_ne (by omega), fun i2 hi2 _ z => by rw [ups_ne (by omega)] at z; exact z⟩⟩
            rw [hcls, if_neg (by omega), if_pos b3]; rfl
        · have b3 : ups w (690 + i) 1 (690 + di w t) = 0 := by rcases kd with k | k; exact k; exact absurd k b1
          refine Or.inr ⟨_, xup M (61 + i) 12 1, ups w (690 + i) 1, T, ?_, ⟨hR1, hV1, hO1, ⟨hw1, hY.fr (fun j _ => ups_ne (by omega)), (hM.mono (by omega)).fr (fun j _ _ => ups_ne (by omega))⟩, frx (fr0 M) (by omega)⟩, ⟨bi_b false, fun j hj => ups_ne (by omega), fun i2 hi2 _ z => by rw [ups_ne (by omega)] at z; exact z⟩⟩
          rw [hcls, if_pos b3]; rfl
    · refine Or.inl ⟨2, by decide, ?_⟩
      · unfold fX11_cancel
        rw [c_needI hR, q, if_t, xb_l, xr_0_1, c_ins (by omega), xb_l, Int.toNat_natCast, c_alive i M (by rw [hR.ist (by omega)]; omega), xb_l, hR.ist (by omega), decide_eq_false z1]; rfl
/-- what an instruction leaves -/
def InP (w w1 : Nat → Int) : Prop := w1 1542 = w 1542 + 1 ∧ (∀ j, j < 10 ∨ (80 ≤ j ∧ j < 90) ∨ (1130 ≤ j ∧ j < 1140) ∨ j = 1540 ∨ j = 1541 ∨ j = 1546 ∨ j = 1547 → w1 j = w j) ∧ ((w1 (650 + (w 1542).toNat) = w 1543 ∧ w1 1543 = w 1543 + 1) ∨ (w1 (650 + (w 1542).toNat) = -1 ∧ w1 1543 = w 1543)) ∧ (ID w → ID w1) ∧ (IN w → IN w1)
theorem kop_instruct {M : xM} {w T : Nat → Int} {n : Nat} (hr : Cx M w T n) {a b d s u m t p l : Int} (hd : B01 d) (h20 : w 1543 < 20) : OKe (fun _ => (inT w a b s && (inR w a b u m t p l && decide (w 1542 < 40))) = false) (fX11_instruct 0 a b d s u m t p l M) M n (fun v w1 => (inT w a b s && (inR w a b u m t p l && decide (w 1542 < 40))) = true ∧ v = w 1542 ∧ InP w w1) := by
  obtain ⟨hR, hV, ⟨h0, hY, hM⟩, hO, -⟩ := id hr
  have hC := h0.1
  have hI := h0.2.2.2.2.1
  have c2 := hC.2.2.1
  have c3 := hC.2.2.2.1
  obtain ⟨i, hw⟩ := ex_nat c2.1
  have ei : (w 1542).toNat = i := by omega
  have hc := cs_instruct hR a b d s u m t p l
  cases q1 : inT w a b s
  · rw [q1, if_f] at hc
    exact Or.inl ⟨_, rfl, hc⟩
  · rw [q1, if_t] at hc
    cases q2 : inR w a b u m t p l
    · rw [q2, if_f] at hc
      exact Or.inl ⟨_, rfl, hc⟩
    · rw [q2, if_t] at hc
      cases q3 : decide (w 1542 < 40)
      · rw [q3, if_f] at hc
        have : ¬ w 1542 < 40 := of_decide_eq_false q3
        exact Or.inl ⟨_, rfl, hc⟩
      · rw [q3, if_t] at hc
        have hi : i < 40 := by have : w 1542 < 40 := of_decide_eq_true q3; omega
        have g1 := and_tt q1
        have g2 := and_tt g1.2
        obtain ⟨a', ea, la⟩ := inb_t g1.1
        obtain ⟨b', eb, lb⟩ := inb_t g2.1
        obtain ⟨s', es', ls⟩ := inb_t g2.2
        have r0 : a ≠ b := of_decide_eq_true (and_tt q2).1
        have r1 := rg_t (and_tt (and_tt q2).2).1
        have r2 := rg_t (and_tt (and_tt (and_tt q2).2).2).1
        have r3 := rg_t (and_tt (and_tt (and_tt (and_tt q2).2).2).2).1
        have r4 := rg_t (and_tt (and_tt (and_tt (and_tt (and_tt q2).2).2).2).2).1
        have r5 := rg_t (and_tt (and_tt (and_tt (and_tt (and_tt q2).2).2).2).2).2
        have day := hC.2.2.2.2.2.2.2
        obtain ⟨z1, z2, z3⟩ := (hI i hi).2 (by omega)
        have v := wIn_v (w := w) hi a b d s u m t p l
        have ne := fun (j : Nat) h1 h2 h3 h4 h5 h6 h7 h8 h9 h0 => wIn_ne (w := w) (i := i) a b d s u m t p l (j := j) h1 h2 h3 h4 h5 h6 h7 h8 h9 h0
        have rF := hR.fill h0 hi hw a b d s u m t p l
        rw [c_in93 hR h0 hi hw a b d s u m t p l r2] at hc
        have nfX : ∀ j, (j < 210 ∨ 730 ≤ j) → wIn w i a b d s u m t p l j = w j := fun j hj => ne j (by omega) (by omega) (by omega) (by omega) (by omega) (by omega) (by omega) (by omega) (by omega) (by omega)
        have nxX : ∀ lo x : Nat, x < 40 → x ≠ i → (lo = 210 ∨ lo = 250 ∨ lo = 290 ∨ lo = 330 ∨ lo = 370 ∨ lo = 410 ∨ lo = 450 ∨ lo = 490 ∨ lo = 530 ∨ lo = 570 ∨ lo = 610 ∨ lo = 650 ∨ lo = 690) → wIn w i a b d s u m t p l (lo + x) = w (lo + x) := fun lo x hx hne hlo => ne _ (by omega) (by omega) (by omega) (by omega) (by omega) (by omega) (by omega) (by omega) (by omega) (by omega)
        have y1 : wIn w i a b d s u m t p l (570 + i) = 0 := by rw [ne _ (by omega) (by omega) (by omega) (by omega) (by omega) (by omega) (by omega) (by omega) (by omega) (by omega)]; exact z1
        have y2 : wIn w i a b d s u m t p l (610 + i) = 0 := by rw [ne _ (by omega) (by omega) (by omega) (by omega) (by omega) (by omega) (by omega) (by omega) (by omega) (by omega)]; exact z2
        have y3 : wIn w i a b d s u m t p l (690 + i) = 0 := by rw [ne _ (by omega) (by omega) (by omega) (by omega) (by omega) (by omega) (by omega) (by omega) (by omega) (by omega)]; exact z3
        obtain ⟨v1, v2, v3, v4, v5, v6, v7, v8, v9, v10⟩ := v
        have itr : mIn M i a b d s u m t p l (61 + i) 10 = -1 := by
          unfold mIn
          simp (disch := omega) only [xup_k]
          exact hR.2.2.2.2.2 i hi (by omega)
        have oF : told (mIn M i a b d s u m t p l) T := fun x hx => by
          unfold mIn
          simp (disch := omega) only [xup_c]; exact hO x hx
        have fF : ∀ c : Nat, c < 61 ∨ 101 ≤ c → mIn M i a b d s u m t p l c = M c := fun c hc => by
          unfold mIn
          simp (disch := omega) only [xup_row]
        have vF : MV (mIn M i a b d s u m t p l) (wIn w i a b d s u m t p l) := hV.fr (by rw [fF 3 (by omega)]) (fun x hx => by
          funext k; unfold mIn
          simp (disch := omega) only [xup_c]) (fun e he => by rw [fF _ (by omega)]) (fun j _ _ => nfX j (by omega)) (fun e _ => nfX _ (by omega)) (fun e _ _ => nfX _ (by omega)) (fun j _ _ => nfX j (by omega))
        generalize hXe : wIn w i a b d s u m t p l = X at *
        generalize hNe : mIn M i a b d s u m t p l = N at *
        clear hXe hNe
        have x42 : X 1542 = (i : Int) := by rw [nfX _ (by omega), hw]
        have iF : Inv0 X := h0.row hi hw (Or.inl x42) (fun j hj _ => nfX j hj) nxX y1 y2 y3 v10 (by omega) (by omega) (by omega) (by omega) (by omega) (by omega) (by omega) (by omega) (by omega) (by rw [v3]; exact hd)
        have iC : Inv0 (ups X 1542 ((i : Int) + 1)) := h0.row hi hw (Or.inr ups_same) (fun j hj hne => by rw [ups_ne hne]; exact nfX j hj) (fun lo x hx hne hlo => by rw [ups_ne (by omega)]; exact nxX lo x hx hne hlo) (by rw [ups_ne (by omega)]; exact y1) (by rw [ups_ne (by omega)]; exact y2) (by rw [ups_ne (by omega)]; exact y3) (by rw [ups_ne (by omega)]; exact v10) (by rw [ups_ne (by omega)]; omega) (by rw [ups_ne (by omega)]; omega) (by rw [ups_ne (by omega), ups_ne (by omega)]; omega) (by rw [ups_ne (by omega)]; omega) (by rw [ups_ne (by omega)]; omega) (by rw [ups_ne (by omega)]; omega) (by rw [ups_ne (by omega)]; omega) (by rw [ups_ne (by omega)]; omega) (by rw [ups_ne (by omega)]; omega) (by rw [ups_ne (by omega), v3]; exact hd)
        have rC : R (xup N 3 11 ((i : Int) + 1)) (ups X 1542 ((i : Int) + 1)) := rF.cntI hi x42 (by rw [itr, v10]) rfl
        have vC : MV (xup N 3 11 ((i : Int) + 1)) (ups X 1542 ((i : Int) + 1)) := vF.fr (xup_k (by omega)) (fun x hx => xup_row (by omega)) (fun e he => xup_c (by omega)) (fun j _ _ => ups_ne (by omega)) (fun e _ => ups_ne (by omega)) (fun e _ _ => ups_ne (by omega)) (fun j _ _ => ups_ne (by omega))
        have oC : told (xup N 3 11 ((i : Int) + 1)) T := told.c (T := T) oF (by omega)
        have yF : IY 0 X := hY.fr (fun j _ => nfX j (by omega))
        have mF : IM (((n + 1 : Nat) : Int) * 7000000000000000) X := (hM.mono (by omega)).fr (fun j _ _ => nfX j (by omega))
        rcases sMt_fit (w := X) (i := i) (am := m) i 0 (-1) 3 (Or.inl rfl) with pz | ⟨k, pz, k1, k2⟩
        · rw [pz] at hc
          rw [if_pos rfl] at hc
          refine Or.inr ⟨_, _, ups X 1542 ((i : Int) + 1), T, hc, ⟨rC, vC, oC, ⟨iC, yF.fr (fun j _ => ups_ne (by omega)), mF.fr (fun j _ _ => ups_ne (by omega))⟩, fun c hc => by rw [xup_row (by omega), fF c (by omega)]⟩, ⟨rfl, by omega, by rw [ups_same]; omega, fun j hj => by rw [ups_ne (by omega)]; exact nfX j (by omega), Or.inr ⟨by rw [ei, ups_ne (by omega)]; exact v10, by rw [ups_ne (by omega)]; exact nfX 1543 (by omega)⟩, fun hD x hx hl h0x => ?_, fun hN x hx hl hz zz2 => ?_⟩⟩
          · rw [ups_same] at hl
            rw [ups_ne (by omega)] at h0x ⊢
            by_cases zi : x = i
            · subst zi; rw [v10] at h0x; exact absurd h0x (by decide)
            · have e6 := nxX 650 x hx zi (by omega)
              rw [e6] at h0x ⊢
              have k9 := ((hI x hx).1 (by omega)).2.2.2.2.2.2.2.2.2.2.1
              have e1 : di (ups X 1542 ((i : Int) + 1)) (w (650 + x)).toNat = di w (w (650 + x)).toNat := by unfold di; rw [ups_ne (by omega), nfX _ (by omega)]
              have e2 : ri (ups X 1542 ((i : Int) + 1)) (w (650 + x)).toNat = ri w (w (650 + x)).toNat := by unfold ri; rw [ups_ne (by omega), nfX _ (by omega)]
              rw [e1, e2]; exact hD x hx (by omega) h0x
          · rw [ups_same] at hl
            rw [ups_ne (by omega)] at hz zz2
            by_cases zi : x = i
            · subst zi; rw [y1] at zz2; exact absurd zz2 (by decide)
            · rw [nxX 650 x hx zi (by omega)] at hz
              rw [nxX 570 x hx zi (by omega)] at zz2
              exact hN x hx (by omega) hz zz2
        · rw [pz] at hc
          rw [if_neg (by omega)] at hc
          by_cases y : 20 ≤ w 1543
          · rw [if_pos y] at hc
            exact absurd y (by omega)
          · rw [if_neg y] at hc
            obtain ⟨t', ht'⟩ := ex_nat c3.1
            obtain ⟨M', f1, f2, f3, f4, f5, f6, f7, f8⟩ := match_step rC vC oC iC (i := i) (k := k) (t := t') (by rw [ups_same]; omega) (by rw [ups_same]; omega) (by rw [ups_ne (by omega)]; exact y1) (by
              have : sFit (ups X 1542 ((i : Int) + 1)) i k = sFit X i k := by
                unfold sFit; simp (disch := omega) only [ups_ne]
              rw [this]; exact k2) (by rw [ups_ne (by omega), nfX _ (by omega)]; exact ht') (by omega)
            rw [f1, xb_l] at hc
            obtain ⟨⟨q1, q2⟩, q3, q4, ⟨q5, q6⟩, q7⟩ := wMa_tr (w := ups X 1542 ((i : Int) + 1)) (i := i) (k := k) (t := t') hi (by omega) (by omega) (by omega)
            refine Or.inr ⟨_, _, wMa (ups X 1542 ((i : Int) + 1)) i k t', sTb (wMa (ups X 1542 ((i : Int) + 1)) i k t') T t', hc, ⟨f2, f3, f4, ⟨f6, (yF.fr (w' := ups X 1542 ((i : Int) + 1)) (fun j _ => ups_ne (by omega))).fr (fun j hj => f8 j (by omega)), (mF.fr (w' := ups X 1542 ((i : Int) + 1)) (fun j _ _ => ups_ne (by omega))).fr (fun j _ _ => f8 j (by omega))⟩, fun c hc => by rw [f5.fr c hc, xup_row (by omega), fF c (by omega)]⟩, ⟨rfl, by omega, by rw [f8 1542 (by omega), ups_same]; omega, fun j hj => by rw [f8 j (by omega), ups_ne (by omega)]; exact nfX j (by omega), Or.inl ⟨by rw [ei, q1]; exact ht'.symm, by rw [q7]; omega⟩, fun hD x hx hl h0x => ?_, fun hN x hx hl hz z2 => ?_⟩⟩
            · rw [f8 1542 (by omega), ups_same] at hl
              by_cases zi : x = i
              · subst zi; rw [q1, Int.toNat_natCast]; exact q5
              · by_cases zk : x = k
                · subst zk; rw [q2, Int.toNat_natCast]; exact q6
                · have e6 : wMa (ups X 1542 ((i : Int) + 1)) i k t' (650 + x) = w (650 + x) := by rw [(q3 x hx zi zk).1, ups_ne (by omega)]; exact nxX 650 x hx zi (by omega)
                  rw [e6] at h0x ⊢
                  have k9 := ((hI x hx).1 (by omega)).2.2.2.2.2.2.2.2.2.2.1
                  have q4' := q4 (w (650 + x)).toNat (by omega) (by omega)
                  have e1 : di (wMa (ups X 1542 ((i : Int) + 1)) i k t') (w (650 + x)).toNat = di w (w (650 + x)).toNat := by unfold di; rw [q4'.1, ups_ne (by omega), nfX _ (by omega)]
                  have e2 : ri (wMa (ups X 1542 ((i : Int) + 1)) i k t') (w (650 + x)).toNat = ri w (w (650 + x)).toNat := by unfold ri; rw [q4'.2, ups_ne (by omega), nfX _ (by omega)]
                  rw [e1, e2]; exact hD x hx (by omega) h0x
            · rw [f8 1542 (by omega), ups_same] at hl
              by_cases zi : x = i
              · subst zi; rw [q1] at hz; omega
              · by_cases zk : x = k
                · subst zk; rw [q2] at hz; omega
                · rw [(q3 x hx zi zk).1, ups_ne (by omega), nxX 650 x hx zi (by omega)] at hz
                  rw [(q3 x hx zi zk).2, ups_ne (by omega), nxX 570 x hx zi (by omega)] at z2
                  exact hN x hx (by omega) hz z2
