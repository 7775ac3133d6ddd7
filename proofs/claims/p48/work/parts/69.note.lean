-- an event is noted
def wEn (w : Nat → Int) (e s n : Nat) : Nat → Int := fun j => if 1140 + 10 * e ≤ j ∧ j < 1140 + 10 * e + n then w (100 + 4 * (j - (1140 + 10 * e)) + s) else w j
theorem wEn_0 {w : Nat → Int} {e s : Nat} : wEn w e s 0 = w := by funext j; unfold wEn; rw [if_neg (by omega)]
theorem wEn_s {w : Nat → Int} {e s n : Nat} : ups (wEn w e s n) (1140 + 10 * e + n) (w (100 + 4 * n + s)) = wEn w e s (n + 1) := by
  funext j
  unfold ups
  by_cases q : j = 1140 + 10 * e + n
  · subst q; unfold wEn; rw [if_pos rfl, if_pos (by omega), show 1140 + 10 * e + n - (1140 + 10 * e) = n by omega]
  · rw [if_neg q]; unfold wEn
    by_cases z : 1140 + 10 * e ≤ j ∧ j < 1140 + 10 * e + n
    · rw [if_pos z, if_pos (by omega)]
    · rw [if_neg z, if_neg (by omega)]
theorem wEn_ne {w : Nat → Int} {e s n j : Nat} (h : j < 1140 + 10 * e ∨ 1140 + 10 * e + n ≤ j) : wEn w e s n j = w j := by unfold wEn; rw [if_neg (by omega)]
def sCm (w : Nat → Int) (e s t : Nat) : Bool := !decide (w (1050 + e) = 1) && (sDue w t && decide (pp w t = s))
def wCl (w : Nat → Int) (e s n : Nat) : Nat → Int := fun j => if 1340 + 20 * e ≤ j ∧ j < 1340 + 20 * e + n then (if sCm w e s (j - (1340 + 20 * e)) then w (770 + (j - (1340 + 20 * e))) else 0) else w j
theorem wCl_0 {w : Nat → Int} {e s : Nat} : wCl w e s 0 = w := by funext j; unfold wCl; rw [if_neg (by omega)]
theorem wCl_s {w : Nat → Int} {e s n : Nat} : ups (wCl w e s n) (1340 + 20 * e + n) (if sCm w e s n then w (770 + n) else 0) = wCl w e s (n + 1) := by
  funext j
  unfold ups wCl
  by_cases q : j = 1340 + 20 * e + n
  · subst q; rw [if_pos rfl, if_pos (show 1340 + 20 * e ≤ 1340 + 20 * e + n ∧ 1340 + 20 * e + n < 1340 + 20 * e + (n + 1) by omega), show 1340 + 20 * e + n - (1340 + 20 * e) = n by omega]
  · rw [if_neg q]
    by_cases z : 1340 + 20 * e ≤ j ∧ j < 1340 + 20 * e + n
    · rw [if_pos z, if_pos (show 1340 + 20 * e ≤ j ∧ j < 1340 + 20 * e + (n + 1) by omega)]
    · rw [if_neg z, if_neg (show ¬ (1340 + 20 * e ≤ j ∧ j < 1340 + 20 * e + (n + 1)) by omega)]
theorem wCl_ne {w : Nat → Int} {e s n j : Nat} (h : j < 1340 + 20 * e ∨ 1340 + 20 * e + n ≤ j) : wCl w e s n j = w j := by unfold wCl; rw [if_neg (by omega)]
/-- what events note is different only -/
def evo (w w' : Nat → Int) : Prop := ∀ j, (j < 1120 ∨ 1540 ≤ j) → w' j = w j
theorem TF.evo {w w' : Nat → Int} (e : evo w w') {t : Nat} (h : TF w t) : TF w' t ∧ di w' t = di w t ∧ ri w' t = ri w t ∧ dl w' t = dl w t ∧ rc w' t = rc w t ∧ pp w' t = pp w t := h.fr (fun j _ => e j (by omega))
theorem sDue_e {w w' : Nat → Int} (e : evo w w') {t : Nat} (f : TF w t) : sDue w' t = sDue w t := by
  have f0 := f.1
  have f1 := f.2.1
  have d := (f.evo e).2.1
  unfold sDue
  rw [d, e _ (by omega), e _ (by omega), e 1547 (by omega)]
theorem sCm_e {w w' : Nat → Int} (e : evo w w') {t x s : Nat} (hx : x < 10) (f : TF w t) : sCm w' x s t = sCm w x s t := by
  unfold sCm
  rw [sDue_e e f, (f.evo e).2.2.2.2.2, e _ (by omega)]
theorem xr_evt10 : ∀ e : Nat, e < 11 → xr (155 + 4 * e) 10 = 156 + 4 * e := xr_ent
theorem MV.evc {M : xM} {w w' : Nat → Int} (h : MV M w) {c k : Nat} {v : Int} (hc : 155 ≤ c ∧ c < 195 ∧ ¬ (c - 155) % 4 = 0) (hw : ∀ j, (j < 1140 ∨ 1240 ≤ j) → w' j = w j) (h2 : ∀ j, 1140 ≤ j → j < 1240 → w' j = w j) : MV (xup M c k v) w' :=
  h.fr (xup_c (by omega)) (fun a ha => xup_row (by omega)) (fun e he => xup_c (by omega)) (fun j _ _ => hw j (by omega)) (fun e _ => hw _ (by omega)) (fun e _ _ => hw _ (by omega)) (fun j a b => h2 j a b)
theorem c_nE {w T : Nat → Int} {e s : Nat} (he : e < 10) (hs : s < 4) (hC : IC w) (hes : w (1060 + e) = (s : Int)) : ∀ (k a n : Nat) (M : xM), (a : Int) + k = w 1540 → k < n → R M (wEn w e s a) → told M T → ∃ M', fX3_note_2 399 (155 + 4 * e) n (a : Int) M = fX3_note_41 399 (155 + 4 * e) xN 0 M' ∧ R M' (wEn w e s (a + k)) ∧ told M' T ∧ (∀ c, c ≠ 156 + 4 * e → M' c = M c)
  | _, _, 0, _, _, hn, _, _ => absurd hn (Nat.not_lt_zero _)
  | 0, a, n + 1, M, ha, _, hR, hT => by
    refine ⟨M, ?_, hR, hT, fun _ _ => rfl⟩
    have c0 := hC.1
    rw [fX3_note_2, xr_399_0, if_pos (by rw [hR.nA, wEn_ne (by omega)]; omega)]
  | k + 1, a, n + 1, M, ha, hn, hR, hT => by
    have c0 := hC.1
    have ha4 : a < 10 := by omega
    have r1 : R (xup M (156 + 4 * e) a (w (100 + 4 * a + s))) (wEn w e s (a + 1)) := by
      have := hR.eent_up he ha4 (v := w (100 + 4 * a + s))
      rw [wEn_s] at this; exact this
    obtain ⟨M2, b1, b2, b3, b4⟩ := c_nE he hs hC hes k (a + 1) n _ (by omega) (by omega) r1 (hT.c (by omega))
    refine ⟨M2, ?_, by rw [show a + (k + 1) = a + 1 + k by omega]; exact b2, b3, fun c hc => by rw [b4 c hc, xup_row hc]⟩
    have es : wEn w e s a (1060 + e) = (s : Int) := by rw [wEn_ne (by omega)]; exact hes
    rw [fX3_note_2, xr_399_0, if_neg (by rw [hR.nA, wEn_ne (by omega)]; omega), c_acc (by omega), xb_l, Int.toNat_natCast, hR.esec he, es, c_held hR ha4 hs, xb_l, wEn_ne (by omega)]
    unfold fX4_setEntitled
    rw [if_neg (by omega), if_neg (by omega), xix_t (by omega) (by omega), xr_ent e (by omega), Int.toNat_natCast, xput_b]
    show xb (some (.inl 0, _)) _ = _
    rw [xb_l, w32_s (by omega)]; exact b1
theorem c_nC {w T : Nat → Int} {e s : Nat} (he : e < 10) (hes : w (1060 + e) = (s : Int)) (hL : LT w) : ∀ (k t n : Nat) (M : xM), (t : Int) + k = w 1543 → k < n → R M (wCl w e s t) → told M T → ∃ M', fX3_note_41 399 (155 + 4 * e) n (t : Int) M = some (.inl 0, xup (xup (xup M' (155 + 4 * e) 9 (M' 3 17)) (155 + 4 * e) 7 1) 3 17 (w32 (M' 3 17 + 1))) ∧ R M' (wCl w e s (t + k)) ∧ told M' T ∧ (∀ c, c ≠ 158 + 4 * e → M' c = M c)
  | _, _, 0, _, _, hn, _, _ => absurd hn (Nat.not_lt_zero _)
  | 0, t, n + 1, M, ht, _, hR, hT => by
    refine ⟨M, ?_, hR, hT, fun _ _ => rfl⟩
    have c3 := hL.1.2.2.2.1
    rw [fX3_note_41, xr_399_0, if_pos (by rw [hR.nT, wCl_ne (by omega)]; omega), xput_b, xput_b, xput_b, xup_c (a := 3) (by omega), xup_c (a := 3) (by omega)]; rfl
  | k + 1, t, n + 1, M, ht, hn, hR, hT => by
    have c3 := hL.1.2.2.2.1
    have hl : (t : Int) < w 1543 := by omega
    have ht4 : t < 20 := by omega
    have f := hL.2 t hl
    have ev : evo w (wCl w e s t) := fun j hj => wCl_ne (by omega)
    have fe := f.evo ev
    have hl' : (t : Int) < wCl w e s t 1543 := by rw [wCl_ne (by omega)]; exact hl
    have r1 : R (xup M (158 + 4 * e) t (if sCm w e s t then w (770 + t) else 0)) (wCl w e s (t + 1)) := by
      have := hR.eclm_up he ht4 (v := if sCm w e s t then w (770 + t) else 0)
      rw [wCl_s] at this; exact this
    obtain ⟨M2, b1, b2, b3, b4⟩ := c_nC he hes hL k (t + 1) n _ (by omega) (by omega) r1 (hT.c (by omega))
    refine ⟨M2, ?_, by rw [show t + (k + 1) = t + 1 + k by omega]; exact b2, b3, fun c hc => by rw [b4 c hc, xup_row hc]⟩
    have key : ∀ b : Bool, fX3_note_96 (fX3_note_41 399 (155 + 4 * e) n) 399 (155 + 4 * e) (t : Int) (102 + t) (bi b) M = (fX3_note_41 399 (155 + 4 * e) n) ((t + 1 : Nat) : Int) (xup M (158 + 4 * e) t (if b then w (770 + t) else 0)) := fun b => by
      have g : ∀ v : Int, fX3_note_113 (fX3_note_41 399 (155 + 4 * e) n) 399 (155 + 4 * e) (t : Int) v (t : Int) (155 + 4 * e) M = (fX3_note_41 399 (155 + 4 * e) n) ((t + 1 : Nat) : Int) (xup M (158 + 4 * e) t v) := fun v => by
        unfold fX3_note_113 fX4_setClaimed
        rw [if_neg (by omega), if_neg (by omega), xix_t (by omega) (by omega), xr_clm e (by omega), Int.toNat_natCast, xput_b, w32_s (by omega)]; rfl
      unfold fX3_note_96
      rw [g, g, hR.tun ht4, wCl_ne (by omega), if_b0]
      cases b <;> rfl
    rw [fX3_note_41, xr_399_0, if_neg (by rw [hR.nT, wCl_ne (by omega)]; omega), c_trd (by omega), xb_l, Int.toNat_natCast, c_due hR fe.1 hl', xb_l, if_b0, sDue_e ev f, hR.ekin he, wCl_ne (by omega), hR.tP hl' fe.1, fe.2.2.2.2.2, hR.esec he, wCl_ne (by omega), hes]
    unfold fX3_note_95
    rw [show fX3_note_96 (fX3_note_41 399 (155 + 4 * e) n) 399 (155 + 4 * e) (t : Int) (102 + t) 0 M = _ from key false, show fX3_note_96 (fX3_note_41 399 (155 + 4 * e) n) 399 (155 + 4 * e) (t : Int) (102 + t) 1 M = _ from key true, ← b1]
    unfold sCm
    by_cases q1 : w (1050 + e) = 1
    · rw [if_pos q1, decide_eq_true q1]; rfl
    · rw [if_neg q1, decide_eq_false q1]
      cases sDue w t
      · rfl
      · rw [if_t, Bool.not_false, Bool.true_and, Bool.true_and]
        by_cases q2 : pp w t = s
        · rw [if_pos (by omega), decide_eq_true q2]
        · rw [if_neg (by omega), decide_eq_false q2]
def wNo (w : Nat → Int) (e : Nat) : Nat → Int := ups (wCl (wEn w e (w (1060 + e)).toNat (w 1540).toNat) e (w (1060 + e)).toNat (w 1543).toNat) (1120 + e) 1
theorem m_nE {T : Nat → Int} {h : Int} {M : xM} {w : Nat → Int} {e s : Nat} (he : e < 10) (hs : s < 4) (hC : IC w) (hes : w (1060 + e) = (s : Int)) : ∀ (k a n : Nat), (a : Int) + k = w 1540 → k < n → fX12_note_13 400 (e : Int) n (a : Int) (st M (wEn w e s a) T h) = fX12_note_73 400 (e : Int) xN 0 (st M (wEn w e s (a + k)) T h)
  | _, _, 0, _, hn => absurd hn (Nat.not_lt_zero _)
  | 0, a, n + 1, ha, _ => by
    have c0 := hC.1
    rw [fX12_note_13, xr_400_0, st_401, wEn_ne (by omega), if_pos (by omega)]; rfl
  | k + 1, a, n + 1, ha, hn => by
    have c0 := hC.1
    have ha4 : a < 10 := by omega
    have ih := m_nE (T := T) (h := h) (M := M) he hs hC hes k (a + 1) n (by omega) (by omega)
    have es : wEn w e s a (1060 + e) = (s : Int) := by rw [wEn_ne (by omega)]; exact hes
    rw [fX12_note_13, xr_400_0, st_401, wEn_ne (by omega), if_neg (by omega)]
    simp (disch := omega) only [w32_i, xix_t, tn_add, tn_4, tn_10, Int.toNat_natCast, Int.reduceToNat, xput_b, st_w, es]
    rw [wEn_ne (j := 100 + 4 * a + s) (by omega), wEn_s, show (a : Int) + 1 = ((a + 1 : Nat) : Int) by omega, ih, show a + (k + 1) = a + 1 + k by omega]
theorem m_nC {T : Nat → Int} {h : Int} {M : xM} {w : Nat → Int} {e s : Nat} (he : e < 10) (hes : w (1060 + e) = (s : Int)) (hL : LT w) : ∀ (k t n : Nat), (t : Int) + k = w 1543 → k < n → fX12_note_73 400 (e : Int) n (t : Int) (st M (wCl w e s t) T h) = some (.inl 0, st M (wCl w e s (t + k)) T h)
  | _, _, 0, _, hn => absurd hn (Nat.not_lt_zero _)
  | 0, t, n + 1, ht, _ => by
    have c3 := hL.1.2.2.2.1
    rw [fX12_note_73, xr_400_0, st_401, wCl_ne (by omega), if_pos (by omega)]; rfl
  | k + 1, t, n + 1, ht, hn => by
    have c3 := hL.1.2.2.2.1
    have hl : (t : Int) < w 1543 := by omega
    have ht4 : t < 20 := by omega
    have f := hL.2 t hl
    have ev : evo w (wCl w e s t) := fun j hj => wCl_ne (by omega)
    have fe := f.evo ev
    have ih := m_nC (T := T) (h := h) (M := M) he hes hL k (t + 1) n (by omega) (by omega)
    have key : ∀ b : Bool, fX12_note_135 (fX12_note_73 400 (e : Int) n) 400 (e : Int) (t : Int) (bi b) (st M (wCl w e s t) T h) = (fX12_note_73 400 (e : Int) n) ((t + 1 : Nat) : Int) (st M (ups (wCl w e s t) (1340 + 20 * e + t) (if b then w (770 + t) else 0)) T h) := fun b => by
      unfold fX12_note_135 fX12_note_168
      simp (disch := omega) only [w32_i, xix_t, xr_400_0, tn_add, tn_20, Int.toNat_natCast, Int.reduceToNat, xput_b, st_w, st_401]
      rw [wCl_ne (j := 770 + t) (by omega), show (t : Int) + 1 = ((t + 1 : Nat) : Int) by omega, if_b0]
      cases b <;> rfl
    rw [fX12_note_73, xr_400_0, st_401, wCl_ne (by omega), if_neg (by omega)]
    unfold fX12_note_134
    rw [show fX12_note_135 (fX12_note_73 400 (e : Int) n) 400 (e : Int) (t : Int) 0 (st M (wCl w e s t) T h) = _ from key false]
    rw [m_due (M := st M (wCl w e s t) T h) fe.1, xb_l, if_b0, st_401, sDue_e ev f, m_pp (M := st M (wCl w e s t) T h) fe.1, xb_l, st_401, fe.2.2.2.2.2]
    rw [show fX12_note_135 (fX12_note_73 400 (e : Int) n) 400 (e : Int) (t : Int) 0 (st M (wCl w e s t) T h) = _ from key false, show fX12_note_135 (fX12_note_73 400 (e : Int) n) 400 (e : Int) (t : Int) 1 (st M (wCl w e s t) T h) = _ from key true]
    simp (disch := omega) only [w32_i, xix_t, tn_add, Int.toNat_natCast, Int.reduceToNat]
    rw [wCl_ne (j := 1050 + e) (by omega), wCl_ne (j := 1060 + e) (by omega), hes, show t + (k + 1) = t + 1 + k by omega, ← ih, ← wCl_s]
    unfold sCm
    by_cases q1 : w (1050 + e) = 1
    · rw [if_pos q1, decide_eq_true q1]; rfl
    · rw [if_neg q1, decide_eq_false q1]
      cases sDue w t
      · rfl
      · rw [if_t, Bool.not_false, Bool.true_and, Bool.true_and]
        by_cases q2 : pp w t = s
        · rw [if_pos (by omega), decide_eq_true q2]; rfl
        · rw [if_neg (by omega), decide_eq_false q2]
theorem mvs_tail {M : xM} {a s p : Nat} : ∀ n, p ≤ n → (∀ q, p ≤ q → q < n → M (15 + 4 * a) (4 * q + s) = 0) → mvs M a s n = mvs M a s p
  | 0, hp, _ => by rw [show p = 0 by omega]
  | n + 1, hp, h => by
    by_cases z : p = n + 1
    · rw [z]
    · have ih := mvs_tail n (by omega) (fun q h1 h2 => h q h1 (by omega))
      show mvs M a s n + M (15 + 4 * a) (4 * n + s) = _
      rw [h n (by omega) (by omega), ih, Int.add_zero]
theorem note_step {M : xM} {w T : Nat → Int} (hS : SS M w T) (h0 : Inv0 w) {e : Nat} (he : e < 10) (hl : (e : Int) < w 1546) (hu : w (1120 + e) = 0) : ∃ M', fX3_note 399 (155 + 4 * e) M = some (.inl 0, M') ∧ SS M' (wNo w e) T ∧ fz M M' ∧ Inv0 (wNo w e) ∧ (∀ (N : xM) (h : Int), fX12_note 400 (e : Int) (st N w T h) = some (.inl 0, st N (wNo w e) T h)) ∧ evo w (wNo w e) ∧ wNo w e (1120 + e) = 1 ∧ (∀ x, x < 10 → x ≠ e → wNo w e (1120 + x) = w (1120 + x)) ∧ ∀ x, x < 10 → wNo w e (1130 + x) = w (1130 + x) := by
  obtain ⟨hR, hV, hT⟩ := hS
  obtain ⟨hC, hA, hSec, hH, hI, hTr, hK, hLo, hE⟩ := id h0
  have c0 := hC.1
  have c1 := hC.2.1
  have c2 := hC.2.2.1
  have c3 := hC.2.2.2.1
  have kE := hE e he
  obtain ⟨e1, e2, -⟩ := kE.1 hl
  have kz := kE.2.2.2.2.1 hu
  obtain ⟨s, hes⟩ := ex_nat e2.1
  have hs4 : s < 4 := by omega
  obtain ⟨nA, hnA⟩ := ex_nat c0.1
  obtain ⟨nT, hnT⟩ := ex_nat c3.1
  have hdef : wNo w e = ups (wCl (wEn w e s nA) e s nT) (1120 + e) 1 := by
    unfold wNo; rw [hes, hnA, hnT, Int.toNat_natCast, Int.toNat_natCast, Int.toNat_natCast]
  have n1 : ∀ j, (j < 1140 ∨ 1240 ≤ j) → wEn w e s nA j = w j := fun j hj => wEn_ne (by omega)
  have ev1 : evo w (wEn w e s nA) := fun j hj => n1 j (by omega)
  have hL1 : LT (wEn w e s nA) := ⟨hC.fr (fun j _ _ => n1 j (by omega)), fun t ht => by
    rw [n1 1543 (by omega)] at ht
    exact ((h0.tf ht).evo ev1).1⟩
  obtain ⟨M1, a1, a2, a3, a4⟩ := c_nE (T := T) he hs4 hC hes nA 0 xN M (by omega) (by unfold xN; omega) (by rw [wEn_0]; exact hR) hT
  rw [Nat.zero_add] at a2
  obtain ⟨M2, b1, b2, b3, b4⟩ := c_nC (w := wEn w e s nA) (T := T) he (by rw [n1 _ (by omega)]; exact hes) hL1 nT 0 xN M1 (by rw [n1 1543 (by omega)]; omega) (by unfold xN; omega) (by rw [wCl_0]; exact a2) a3
  rw [Nat.zero_add] at b2
  have n2 : ∀ j, (j < 1340 ∨ 1540 ≤ j) → wCl (wEn w e s nA) e s nT j = wEn w e s nA j := fun j hj => wCl_ne (by omega)
  have ev2 : evo w (wNo w e) := fun j hj => by rw [hdef, ups_ne (by omega), n2 j (by omega), n1 j (by omega)]
  have evf : ∀ j, (j < 1120 ∨ 1540 ≤ j) → wNo w e j = w j := ev2
  have r3 : R (xup M2 (155 + 4 * e) 7 1) (wNo w e) := by rw [hdef]; exact b2.enot_up he
  have hM2 : M2 3 17 = M 3 17 := by rw [b4 3 (by omega), a4 3 (by omega)]
  have np9 : np w 10 < 10 := np_lt (e := e) (by rw [hu]; omega) 10 he
  have v120 : wNo w e (1120 + e) = 1 := by rw [hdef, ups_same]
  have v12x : ∀ x, x < 10 → x ≠ e → wNo w e (1120 + x) = w (1120 + x) := fun x hx hne => by rw [hdef, ups_ne (by omega), n2 _ (by omega), n1 _ (by omega)]
  have v13x : ∀ x, x < 10 → wNo w e (1130 + x) = w (1130 + x) := fun x hx => by rw [hdef, ups_ne (by omega), n2 _ (by omega), n1 _ (by omega)]
  have np1 : np (wNo w e) 10 = np w 10 + 1 := by
    have u := np_up hu 10
    rw [if_pos he] at u
    rw [← u]
    refine np_eq (fun x hx => ?_) 10 (by omega)
    by_cases z : x = e
    · rw [z, v120, ups_same]
    · rw [v12x x hx z, ups_ne (by omega)]
  have vent : ∀ a, a < 10 → wNo w e (1140 + 10 * e + a) = w (100 + 4 * a + s) := fun a ha => by
    rw [hdef, ups_ne (by omega), n2 _ (by omega)]
    by_cases z : a < nA
    · unfold wEn; rw [if_pos (by omega), show 1140 + 10 * e + a - (1140 + 10 * e) = a by omega]
    · rw [wEn_ne (by omega), (kz.1 a ha).1, (hH.1 a s ha hs4).2.2.1 (by omega)]
  have vex : ∀ x a, x < 10 → a < 10 → x ≠ e → wNo w e (1140 + 10 * x + a) = w (1140 + 10 * x + a) := fun x a hx ha hne => by
    rw [hdef, ups_ne (by omega), n2 _ (by omega), wEn_ne (by omega)]
  have vel : ∀ x a, x < 10 → a < 10 → wNo w e (1240 + 10 * x + a) = w (1240 + 10 * x + a) := fun x a hx ha => by
    rw [hdef, ups_ne (by omega), n2 _ (by omega), wEn_ne (by omega)]
  have vcx : ∀ x t, x < 10 → t < 20 → x ≠ e → wNo w e (1340 + 20 * x + t) = w (1340 + 20 * x + t) := fun x t hx ht hne => by
    rw [hdef, ups_ne (by omega), wCl_ne (by omega), wEn_ne (by omega)]
  have vcm : ∀ t, t < 20 → 0 ≤ wNo w e (1340 + 20 * e + t) ∧ wNo w e (1340 + 20 * e + t) ≤ KQ w := fun t ht => by
    have kq := KQ_ge w
    rw [hdef, ups_ne (by omega)]
    by_cases z : t < nT
    · unfold wCl
      rw [if_pos (by omega), show 1340 + 20 * e + t - (1340 + 20 * e) = t by omega, n1 (770 + t) (by omega)]
      have := ((hTr t ht).1 (by omega)).2.2.2.1
      split
      · exact this
      · omega
    · rw [wCl_ne (by omega), wEn_ne (by omega), kz.2 t ht]; omega
  have vck : w (1050 + e) = 1 → ∀ t, t < 20 → wNo w e (1340 + 20 * e + t) = 0 := fun hk t ht => by
    rw [hdef, ups_ne (by omega)]
    by_cases z : t < nT
    · unfold wCl
      rw [if_pos (by omega), show 1340 + 20 * e + t - (1340 + 20 * e) = t by omega]
      have : sCm (wEn w e s nA) e s t = false := by
        unfold sCm; rw [n1 (1050 + e) (by omega), decide_eq_true hk]; rfl
      rw [this]; rfl
    · rw [wCl_ne (by omega), wEn_ne (by omega), kz.2 t ht]
  have hKQ : KQ (wNo w e) = KQ w := KQ_eq v13x
  have hMv : ∀ a, M2 (15 + 4 * a) = M (15 + 4 * a) := fun a => by
    rw [b4 _ (by omega), a4 _ (by omega)]
  refine ⟨xup (xup (xup M2 (155 + 4 * e) 9 (M2 3 17)) (155 + 4 * e) 7 1) 3 17 (w32 (M2 3 17 + 1)), ?_, ⟨?_, ?_, ((b3.c (by omega)).c (by omega)).c (by omega)⟩, ?_, ?_, fun N h => ?_, ev2, v120, v12x, v13x⟩
  · unfold fX3_note; exact a1.trans b1
  · have : R (xup (xup M2 (155 + 4 * e) 9 (M2 3 17)) (155 + 4 * e) 7 1) (wNo w e) := by
      rw [hdef]
      refine R.enot_up (b2.cls1 ?_) he
      exact (show ∀ e : Nat, e < 10 → frc (155 + 4 * e) 9 = true by decide +kernel) e he
    exact this.cls1 (by decide +kernel)
  · obtain ⟨g1, g2, g3⟩ := hV
    have g2' := fun a s ha hs => g2 a s ha hs
    have mm : ∀ a s p, a < 10 → mvs (xup (xup (xup M2 (155 + 4 * e) 9 (M2 3 17)) (155 + 4 * e) 7 1) 3 17 (w32 (M2 3 17 + 1))) a s p = mvs M a s p := fun a s p ha => by
      unfold mvs; refine sm_eq p (fun x hx => ?_)
      rw [xup_c (by omega), xup_c (by omega), xup_c (by omega), hMv]
    refine ⟨?_, fun a s ha hs => ⟨?_, fun p p1 p2 => ?_⟩, fun x hx hn => ?_⟩
    · rw [xup_same, np1, hM2, g1, w32_i (by omega) (by omega)]; omega
    · rw [mm a s 11 ha, (g2 a s ha hs).1, ev2 _ (by omega)]
    · rw [xup_c (by omega), xup_c (by omega), xup_c (by omega), hMv]
      exact (g2 a s ha hs).2 p (by omega) p2
    · by_cases z : x = e
      · subst z
        refine ⟨np w 10, ?_, by omega, fun a ha => ?_⟩
        · rw [xup_c (by omega), xup_k (by omega), xup_same, hM2, g1]
        · rw [mm a _ _ ha, ev2 (1060 + x) (by omega), hes, Int.toNat_natCast, vent a ha, ← (g2 a s ha hs4).1, mvs_tail (p := np w 10 + 1) 11 (by omega) (fun q q1 q2 => (g2 a s ha hs4).2 q (by omega) q2)]
      · rw [v12x x hx z] at hn
        obtain ⟨q, q1, q2, q3⟩ := g3 x hx hn
        refine ⟨q, ?_, by omega, fun a ha => ?_⟩
        · rw [xup_c (by omega), xup_c (by omega), xup_c (by omega), b4 _ (by omega), a4 _ (by omega)]; exact q1
        · rw [mm a _ _ ha, ev2 (1060 + x) (by omega), vex x a hx ha z]; exact q3 a ha
  · intro c hc
    rw [xup_row (by omega), xup_row (by omega), xup_row (by omega), b4 c (by omega), a4 c (by omega)]
  · refine ⟨hC.fr (fun j _ _ => ev2 j (by omega)), hA.fr hC (fun j _ => ev2 j (by omega)), hSec.fr (fun j _ => ev2 j (by omega)), ⟨fun a s ha hs => ?_, fun s hs => ?_⟩, hI.fr hC (fun j _ => ev2 j (by omega)), ?_, hK.fr (fun j _ => ev2 j (by omega)), ?_, fun x hx => ?_⟩
    · rw [ev2 _ (by omega), ev2 _ (by omega), ev2 1540 (by omega), ev2 1541 (by omega)]; exact hH.1 a s ha hs
    · rw [hKQ, ev2 _ (by omega), sm_eq (g := fun a => w (100 + 4 * a + s)) 10 (fun a ha => ev2 _ (by omega))]; exact hH.2 s hs
    · intro t ht
      have k := hTr t ht
      have d1 : di (wNo w e) t = di w t := by unfold di; rw [ev2 _ (by omega)]
      have d2 : ri (wNo w e) t = ri w t := by unfold ri; rw [ev2 _ (by omega)]
      refine ⟨fun hlt => ?_, fun hlt => ?_⟩
      · rw [ev2 _ (by omega)] at hlt
        have k1 := k.1 hlt
        have b1 : di w t < 40 := by have := k1.1; unfold di; omega
        have b2 : ri w t < 40 := by have := k1.2.1; unfold ri; omega
        rw [hKQ, d1, d2]
        simp (disch := omega) only [evf]
        exact k1
      · rw [ev2 _ (by omega)] at hlt
        rw [ev2 _ (by omega), ev2 _ (by omega)]; exact k.2 hlt
    · intro l hl2 hc
      rw [ev2 _ (by omega)] at hc
      rw [hKQ]
      simp (disch := omega) only [evf]
      exact hLo l hl2 hc
    · have k := hE x hx
      rw [hKQ, ev2 1546 (by omega), ev2 1541 (by omega), ev2 (1050 + x) (by omega), ev2 (1060 + x) (by omega), ev2 (1070 + x) (by omega), ev2 (1080 + x) (by omega), ev2 (1090 + x) (by omega), ev2 (1100 + x) (by omega), ev2 (1110 + x) (by omega), v13x x hx]
      by_cases z : x = e
      · subst z
        rw [v120]
        refine ⟨k.1, fun q => absurd hl (by omega), Or.inr rfl, k.2.2.2.1, fun q => absurd q (by decide), fun a ha => ?_, fun t ht => ⟨(vcm t ht).1, (vcm t ht).2, fun y => vck y t ht⟩⟩
        rw [vent a ha, vel x a hx ha, (kz.1 a ha).2]
        have := hH.le ha hs4
        omega
      · rw [v12x x hx z]
        refine ⟨k.1, k.2.1, k.2.2.1, k.2.2.2.1, fun q => ⟨fun a ha => ?_, fun t ht => ?_⟩, fun a ha => ?_, fun t ht => ?_⟩
        · rw [vex x a hx ha z, vel x a hx ha]; exact (k.2.2.2.2.1 q).1 a ha
        · rw [vcx x t hx ht z]; exact (k.2.2.2.2.1 q).2 t ht
        · rw [vex x a hx ha z, vel x a hx ha]; exact k.2.2.2.2.2.1 a ha
        · rw [vcx x t hx ht z]; exact k.2.2.2.2.2.2 t ht
  · have n0 : ∀ j, j ≠ 1120 + e → ups w (1120 + e) 1 j = w j := fun j hj => ups_ne hj
    have x1 := m_nE (T := T) (h := h) (M := N) (w := ups w (1120 + e) 1) he hs4 (hC.fr (fun j _ _ => n0 j (by omega))) (by rw [n0 _ (by omega)]; exact hes) nA 0 xN (by rw [n0 _ (by omega)]; omega) (by unfold xN; omega)
    rw [Nat.zero_add, wEn_0] at x1
    have nn : ∀ j, (j < 1120 ∨ 1540 ≤ j) → wEn (ups w (1120 + e) 1) e s nA j = w j := fun j hj => by rw [wEn_ne (by omega), n0 j (by omega)]
    have x2 := m_nC (T := T) (h := h) (M := N) (w := wEn (ups w (1120 + e) 1) e s nA) (s := s) he (by rw [nn _ (by omega)]; exact hes) ⟨hC.fr (fun j _ _ => nn j (by omega)), fun t ht => by
      rw [nn 1543 (by omega)] at ht
      exact ((h0.tf ht).evo nn).1⟩ nT 0 xN (by rw [nn 1543 (by omega)]; omega) (by unfold xN; omega)
    rw [Nat.zero_add, wCl_0] at x2
    have e3 : wCl (wEn (ups w (1120 + e) 1) e s nA) e s nT = wNo w e := by
      rw [hdef]
      funext j
      by_cases z : j = 1120 + e
      · rw [z, ups_same, wCl_ne (by omega), wEn_ne (by omega), ups_same]
      · rw [ups_ne z]
        unfold wCl
        by_cases y : 1340 + 20 * e ≤ j ∧ j < 1340 + 20 * e + nT
        · rw [if_pos y, if_pos y]
          have f := h0.tf (t := j - (1340 + 20 * e)) (by omega)
          rw [sCm_e nn he f, sCm_e ev1 he f, nn _ (by omega), n1 _ (by omega)]
        · rw [if_neg y, if_neg y]
          unfold wEn
          by_cases y2 : 1140 + 10 * e ≤ j ∧ j < 1140 + 10 * e + nA
          · rw [if_pos y2, if_pos y2, n0 _ (by omega)]
          · rw [if_neg y2, if_neg y2, n0 _ z]
    unfold fX12_note
    rw [w32_i (by omega) (by omega), xix_t (by omega) (by omega), xr_400_0, xput_b, show (1120 + (e : Int)).toNat = 1120 + e by omega, st_w]
    rw [← e3, ← x2]
    exact x1
