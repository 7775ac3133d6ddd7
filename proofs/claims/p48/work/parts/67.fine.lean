-- the class stands as w, T; what a step of the book leaves
def SS (M : xM) (w T : Nat → Int) : Prop := R M w ∧ MV M w ∧ told M T
def fz (M M' : xM) : Prop := ∀ c, (c = 0 ∨ 199 ≤ c) → M' c = M c
theorem fz.refl (M : xM) : fz M M := fun _ _ => rfl
theorem fz.trans {M M1 M2 : xM} (h : fz M M1) (h2 : fz M1 M2) : fz M M2 := fun c hc => (h2 c hc).trans (h c hc)
theorem fz.x {M M1 : xM} (h : fz M M1) {a k : Nat} {v : Int} (ha : 0 < a ∧ a < 199) : fz M (xup M1 a k v) := fun c hc => by rw [xup_row (by omega)]; exact h c hc
/-- but for some numbers w and w' are the same -/
def eqo (p : Nat → Bool) (w w' : Nat → Int) : Prop := ∀ j, p j = false → w' j = w j
theorem eqo.refl (p : Nat → Bool) (w : Nat → Int) : eqo p w w := fun _ _ => rfl
theorem eqo.trans {p : Nat → Bool} {w w1 w2 : Nat → Int} (h : eqo p w w1) (h2 : eqo p w1 w2) : eqo p w w2 := fun j hj => (h2 j hj).trans (h j hj)
theorem eqo.up {p : Nat → Bool} {w w1 : Nat → Int} (h : eqo p w w1) {j : Nat} {v : Int} (hj : p j = true) : eqo p w (ups w1 j v) := fun i hi => by
  rw [ups_ne (fun z => by rw [z, hj] at hi; cases hi)]; exact h i hi
/-- cash and ledger -/
def pm (j : Nat) : Bool := (decide (30 ≤ j) && decide (j < 50)) || (decide (80 ≤ j) && decide (j < 90))
theorem pm_f {j : Nat} (h : j < 30 ∨ (50 ≤ j ∧ j < 80) ∨ 90 ≤ j) : pm j = false := by
  unfold pm
  simp only [Bool.or_eq_false_iff, Bool.and_eq_false_iff, decide_eq_false_iff_not]; omega
theorem pm_t {j : Nat} (h : pm j = false) : j < 30 ∨ (50 ≤ j ∧ j < 80) ∨ 90 ≤ j := by
  unfold pm at h
  simp only [Bool.or_eq_false_iff, Bool.and_eq_false_iff, decide_eq_false_iff_not] at h; omega
theorem Inv0.pm {w w' : Nat → Int} (h : Inv0 w) (e : eqo pm w w') : Inv0 w' := by
  obtain ⟨hC, hA, hS, hH, hI, hT, hK, hL, hE⟩ := h
  have hw : ∀ j, (j < 30 ∨ (50 ≤ j ∧ j < 80) ∨ 90 ≤ j) → w' j = w j := fun j hj => e j (pm_f hj)
  exact ⟨hC.fr (fun j _ _ => hw j (by omega)), hA.fr hC (fun j _ => hw j (by omega)), hS.fr (fun j _ => hw j (by omega)), hH.fr (fun j _ => hw j (by omega)), hI.fr hC (fun j _ => hw j (by omega)), hT.fr hC (fun j _ => hw j (by omega)), hK.fr (fun j _ => hw j (by omega)), hL.fr (fun j _ => hw j (by omega)), hE.fr (fun j _ => hw j (by omega))⟩
theorem TF.pm {w w' : Nat → Int} (e : eqo pm w w') {t : Nat} (h : TF w t) : TF w' t ∧ di w' t = di w t ∧ ri w' t = ri w t ∧ dl w' t = dl w t ∧ rc w' t = rc w t ∧ pp w' t = pp w t := h.fr (fun j _ => e j (pm_f (by omega)))
-- debts
def wOw (w : Nat → Int) (d c : Nat) (x : Int) : Nat → Int := ups (ups w (80 + d) (w64 (w (80 + d) - x))) (80 + c) (w64 (ups w (80 + d) (w64 (w (80 + d) - x)) (80 + c) + x))
theorem wOw_e {w w1 : Nat → Int} (h : eqo pm w w1) {d c : Nat} (hd : d < 10) (hc : c < 10) (x : Int) : eqo pm w (wOw w1 d c x) := (h.up (by simp [pm]; omega)).up (by simp [pm]; omega)
theorem c_owe {M : xM} {w T : Nat → Int} (hS : SS M w T) {d c : Nat} (hd : d < 10) (hc : c < 10) (x : Int) : ∃ M', fX1_owe 3 (d : Int) (c : Int) x M = some (.inl 0, M') ∧ SS M' (wOw w d c x) T ∧ fz M M' := by
  obtain ⟨hR, hV, hT⟩ := hS
  have r1 : R (xup M (12 + 4 * d) 8 (w64 (w (80 + d) - x))) (ups w (80 + d) (w64 (w (80 + d) - x))) := hR.ledg_up hd
  have r2 := r1.ledg_up hc (v := w64 (ups w (80 + d) (w64 (w (80 + d) - x)) (80 + c) + x))
  refine ⟨_, ?_, ⟨r2, (hV.up (j := 80 + d) (u := w64 (w (80 + d) - x)) (by omega) (by omega) (by omega) (by omega) (by omega) (by omega) (by omega)).up (by omega) (by omega) (by omega) (by omega) (by omega) (by omega) (by omega), (hT.c (by omega)).c (by omega)⟩, ((fz.refl M).x (by omega)).x (by omega)⟩
  unfold fX1_owe
  rw [c_acc (by omega), xb_l, Int.toNat_natCast, hR.ledg hd, xput_b, c_acc (by omega), xb_l, Int.toNat_natCast, r1.ledg hc, xput_b]; rfl
theorem m_owe {M : xM} {w T : Nat → Int} {h : Int} {d c : Nat} (hd : d < 10) (hc : c < 10) (x : Int) : fX12_owes 400 (d : Int) (c : Int) x (st M w T h) = some (.inl 1, st M (wOw w d c x) T h) := by
  unfold fX12_owes
  simp (disch := omega) only [w32_i, xix_t, xr_400_0, tn_add, Int.toNat_natCast, Int.reduceToNat, xput_b, st_w, st_401]; rfl
-- fines
def sFn (w : Nat → Int) (s : Nat) (u : Int) : Int := w64 (Int.tdiv (w64 (w64 (u * w (184 + s)) * w (188 + s))) 10000 + 1)
def wFn (w : Nat → Int) (a c s : Nat) (u : Int) : Nat → Int := if a = c then w else wOw w a c (sFn w s u)
def tFn (T : Nat → Int) (a c : Nat) : Nat → Int := if a = c then T else sTel (sTel T a) c
def nFn (a c : Nat) : Int := if a = c then 0 else 1
theorem nFn_r (a c : Nat) : 0 ≤ nFn a c ∧ nFn a c ≤ 1 := by unfold nFn; split <;> omega
theorem wFn_e {w w1 : Nat → Int} (h : eqo pm w w1) {a c : Nat} (ha : a < 10) (hc : c < 10) (s : Nat) (u : Int) : eqo pm w (wFn w1 a c s u) := by
  unfold wFn; split
  · exact h
  · exact wOw_e h ha hc _
theorem c_fine {M : xM} {w T : Nat → Int} (hS : SS M w T) {a c s : Nat} (ha : a < 10) (hc : c < 10) (hs : s < 4) (u : Int) : ∃ M', fX3_tellFine 399 (a : Int) (c : Int) (s : Int) u M = some (.inl (nFn a c), M') ∧ SS M' (wFn w a c s u) (tFn T a c) ∧ fz M M' := by
  unfold wFn tFn nFn fX3_tellFine
  by_cases q : a = c
  · rw [if_pos q, if_pos q, if_pos q, if_pos (by omega)]
    exact ⟨M, rfl, hS, fz.refl M⟩
  · obtain ⟨M1, o1, ⟨o2, o3, o4⟩, o5⟩ := c_owe hS ha hc (sFn w s u)
    rw [if_neg q, if_neg q, if_neg q, if_neg (by omega), xr_399_0, xr_3_0, c_wor hS.1 hs, xb_l, c_sec (by omega), xb_l, Int.toNat_natCast, hS.1.rate hs, xlet_b]
    rw [show w64 (Int.tdiv (w64 (w64 (u * w (184 + s)) * w (188 + s))) 10000 + 1) = sFn w s u from rfl, o1, xb_l, c_tell ha, xb_l, c_tell hc, xb_l]
    exact ⟨_, rfl, ⟨(o2.fr (fun x h1 h2 => xup_row (by omega))).fr (fun x h1 h2 => xup_row (by omega)), (o3.frM (fun x h1 h2 => xup_row (by omega))).frM (fun x h1 h2 => xup_row (by omega)), (o4.tel ha).tel hc⟩, (o5.x (by omega)).x (by omega)⟩
theorem m_fine {M : xM} {w T : Nat → Int} {h : Int} {a c s : Nat} (ha : a < 10) (hc : c < 10) (hs : s < 4) (u : Int) : fX12_fines 400 (a : Int) (c : Int) u (s : Int) (st M w T h) = some (.inl (nFn a c), st M (wFn w a c s u) (tFn T a c) h) := by
  unfold wFn tFn nFn fX12_fines
  by_cases q : a = c
  · rw [if_pos q, if_pos q, if_pos q, if_pos (by omega)]; rfl
  · rw [if_neg q, if_neg q, if_neg q, if_neg (by omega), xr_400_0, xr_400_3]
    simp (disch := omega) only [w32_i, xix_t, tn_add, Int.toNat_natCast, Int.reduceToNat, xput_b, st_t, st_401, st_403]
    rw [m_owe ha hc, xb_l]; rfl
def sFd (w : Nat → Int) (t : Nat) : Nat := if sHd w (di w t) || (!sHd w (ri w t) && sLa w t) then rc w t else dl w t
theorem c_fd {M : xM} {w : Nat → Int} (hR : R M w) (hH : HF w) {t : Nat} (f : TF w t) (ht : (t : Int) < w 1543) : fX3_finedFor 399 (102 + t) M = some (.inl (sFd w t : Int), M) := by
  obtain ⟨f0, f1, f2, -, -, -, f6, f7, -⟩ := id f
  unfold fX3_finedFor fX3_finedFor_39 fX3_finedFor_43 fX3_finedFor_44 sFd
  rw [xr_399_0, hR.tdel f0, f6, c_ins (by omega), xb_l, Int.toNat_natCast, hR.iheld f1, (hH _ f1).nz, c_hu hR hH f, xb_l, if_b0, c_la hR f ht, xb_l, if_b0, hR.tD ht f, hR.tR ht f]
  unfold sHu sHd
  cases decide (w (610 + di w t) = 1)
  · cases decide (w (610 + ri w t) = 1)
    · cases sLa w t <;> rfl
    · rfl
  · rfl
theorem sCau_l {w : Nat → Int} (hL : LT w) : ∀ (n : Nat) (g : Nat → Bool) (t : Nat), (t : Int) < w 1543 → sCau w n g t < 10
  | 0, _, t, ht => (hL.2 t ht).2.2.2.1
  | n + 1, g, t, ht => by
    have f := hL.2 t ht
    have hc := hL.1.2.2.2.1
    unfold sCau
    split
    · exact f.2.2.2.1
    · split
      · exact f.2.2.2.2.1
      · split
        · exact f.2.2.2.1
        · next h =>
          rcases sSrc_v (w := w) (g := gs g t) (a := dl w t) (s := pp w t) (w 1543).toNat 0 with q | ⟨j, j1, j2, -⟩
          · exact absurd q h
          · exact sCau_l hL n _ _ (by omega)
theorem sFd_l {w : Nat → Int} {t : Nat} (f : TF w t) : sFd w t < 10 := by
  unfold sFd; split
  · exact f.2.2.2.2.1
  · exact f.2.2.2.1
theorem m_fineOf {M : xM} {w T : Nat → Int} {h : Int} (hL : LT w) (hH : HF w) {t : Nat} (ht : (t : Int) < w 1543) : ∃ M3, fX12_fineOf 400 (t : Int) (st M w T h) = some (.inl (nFn (sCau w 20 (fun _ => false) t) (sFd w t)), st M3 (wFn w (sCau w 20 (fun _ => false) t) (sFd w t) (pp w t) (w (770 + t))) (tFn T (sCau w 20 (fun _ => false) t) (sFd w t)) h) ∧ gb M M3 := by
  have f := hL.2 t ht
  obtain ⟨f0, f1, f2, -, -, f5, f6, f7, -⟩ := id f
  obtain ⟨N, g1, g2⟩ := m_causer (M := st M w T h) hL hH ht
  obtain ⟨M3, k1, k2⟩ := st_405 g2
  rw [k1, st_401] at g1
  have key : ∀ b : Bool, fX12_fineOf_49 400 (t : Int) (bi b) (st M w T h) = some (.inl (nFn (sCau w 20 (fun _ => false) t) (if b then rc w t else dl w t)), st M3 (wFn w (sCau w 20 (fun _ => false) t) (if b then rc w t else dl w t) (pp w t) (w (770 + t))) (tFn T (sCau w 20 (fun _ => false) t) (if b then rc w t else dl w t)) h) := fun b => by
    have f3 : TF (st M3 w T h 401) t := f
    have fin : ∀ c : Nat, c < 10 → fX12_fineOf_73 400 (t : Int) (c : Int) (sCau w 20 (fun _ => false) t : Int) 400 (st M3 w T h) = some (.inl (nFn (sCau w 20 (fun _ => false) t) c), st M3 (wFn w (sCau w 20 (fun _ => false) t) c (pp w t) (w (770 + t))) (tFn T (sCau w 20 (fun _ => false) t) c) h) := fun c hc => by
      unfold fX12_fineOf_73
      simp (disch := omega) only [w32_i, xix_t, xr_400_0, tn_add, Int.toNat_natCast, Int.reduceToNat]
      rw [m_pp f3, xb_l, st_401, m_fine (sCau_l hL _ _ t ht) hc f5, xb_l]; rfl
    unfold fX12_fineOf_49
    rw [g1, xb_l, if_b0, m_dl f3, xb_l, m_rc f3, xb_l, st_401, fin _ f.2.2.2.1, fin _ f.2.2.2.2.1]
    cases b <;> rfl
  refine ⟨M3, ?_, k2⟩
  have i1 := m_held (M := st M w T h) f1
  have i2 := m_held (M := st M w T h) f2
  have s := m_sh (M := st M w T h) (t := t) f
  rw [st_401] at i1 i2 s
  unfold fX12_fineOf fX12_fineOf_44 fX12_fineOf_48
  simp (disch := omega) only [w32_i, xix_t, xr_400_0, tn_add, Int.toNat_natCast, Int.reduceToNat, st_401, f6, f7]
  rw [i1, xb_l, if_b0]
  simp (disch := omega) only [w32_i, xix_t, xr_400_0, tn_add, Int.toNat_natCast, Int.reduceToNat, st_401, f7]
  rw [i2, xb_l, if_b0, s, xb_l, if_b0]
  rw [show fX12_fineOf_49 400 (t : Int) 0 (st M w T h) = _ from key false, show fX12_fineOf_49 400 (t : Int) 1 (st M w T h) = _ from key true]
  unfold sFd
  cases sHd w (di w t)
  · cases sHd w (ri w t)
    · cases sLa w t <;> rfl
    · rfl
  · rfl
/-- the fines of all trades -/
def lFT : Nat → Nat → (Nat → Int) → (Nat → Int) → Int → ((Nat → Int) × (Nat → Int)) × Int
  | 0, _, w, T, x => ((w, T), x)
  | k + 1, t, w, T, x => if sDue w t then lFT k (t + 1) (wFn w (sCau w 20 (fun _ => false) t) (sFd w t) (pp w t) (w (770 + t))) (tFn T (sCau w 20 (fun _ => false) t) (sFd w t)) (x + nFn (sCau w 20 (fun _ => false) t) (sFd w t)) else lFT k (t + 1) w T x
theorem LT.pm {w w' : Nat → Int} (h : LT w) (e : eqo pm w w') : LT w' :=
  ⟨h.1.fr (fun j _ _ => e j (pm_f (by omega))), fun t ht => by
    rw [e 1543 (pm_f (by omega))] at ht
    exact (TF.pm e (h.2 t ht)).1⟩
theorem HF.pm {w w' : Nat → Int} (h : HF w) (e : eqo pm w w') : HF w' := fun i hi => by rw [e _ (pm_f (by omega))]; exact h i hi
theorem lFT_e {w0 : Nat → Int} : ∀ (k t : Nat) (w T : Nat → Int) (x : Int), LT w → (t : Int) + k ≤ w 1543 → eqo pm w0 w → eqo pm w0 (lFT k t w T x).1.1
  | 0, _, _, _, _, _, _, h => h
  | k + 1, t, w, T, x, hL, ht, h => by
    unfold lFT
    split
    · have e := wFn_e (eqo.refl pm w) (sCau_l hL 20 (fun _ => false) t (by omega)) (sFd_l (hL.2 t (by omega))) (pp w t) (w (770 + t))
      exact lFT_e k (t + 1) _ _ _ (hL.pm e) (by rw [e 1543 (pm_f (by omega))]; omega) (h.trans e)
    · exact lFT_e k (t + 1) w T x hL (by omega) h
theorem lFT_x : ∀ (k t : Nat) (w T : Nat → Int) (x : Int), x ≤ (lFT k t w T x).2 ∧ (lFT k t w T x).2 ≤ x + k
  | 0, _, _, _, x => ⟨Int.le_refl x, by show x ≤ _; omega⟩
  | k + 1, t, w, T, x => by
    unfold lFT
    split
    · have n := nFn_r (sCau w 20 (fun _ => false) t) (sFd w t)
      have := lFT_x k (t + 1) (wFn w (sCau w 20 (fun _ => false) t) (sFd w t) (pp w t) (w (770 + t))) (tFn T (sCau w 20 (fun _ => false) t) (sFd w t)) (x + nFn (sCau w 20 (fun _ => false) t) (sFd w t))
      omega
    · have := lFT_x k (t + 1) w T x; omega
theorem c_lFT : ∀ (k t n : Nat) (M : xM) (w T : Nat → Int) (x : Int), (t : Int) + k = w 1543 → k < n → SS M w T → LT w → HF w → 0 ≤ x → x ≤ t → ∃ M', fX3_tellFinesOfTrades_4 399 n x (t : Int) M = some (.inl (lFT k t w T x).2, M') ∧ SS M' (lFT k t w T x).1.1 (lFT k t w T x).1.2 ∧ fz M M'
  | _, _, 0, _, _, _, _, _, hn, _, _, _, _, _ => absurd hn (Nat.not_lt_zero _)
  | 0, t, n + 1, M, w, T, x, ht, _, hS, hL, hH, h0, h1 => by
    refine ⟨M, ?_, hS, fz.refl M⟩
    rw [fX3_tellFinesOfTrades_4, xr_399_0, if_pos (by rw [hS.1.nT]; omega)]; rfl
  | k + 1, t, n + 1, M, w, T, x, ht, hn, hS, hL, hH, h0, h1 => by
    have hl : (t : Int) < w 1543 := by omega
    have f := hL.2 t hl
    have hc := hL.1.2.2.2.1
    unfold lFT
    rw [fX3_tellFinesOfTrades_4, xr_399_0, if_neg (by rw [hS.1.nT]; omega), c_trd (by omega), xb_l, Int.toNat_natCast, c_due hS.1 f hl, xb_l, if_b0]
    unfold fX3_tellFinesOfTrades_67
    rw [w32_s (by omega)]
    cases sDue w t
    · rw [if_f, if_f]
      exact c_lFT k (t + 1) n M w T x (by omega) (by omega) hS hL hH h0 (by omega)
    · rw [if_t, if_t, c_causer hS.1 hL hH hl, xb_l, c_fd hS.1 hH f hl, xb_l, hS.1.tP hl f, hS.1.tun f.1]
      obtain ⟨M1, a1, a2, a3⟩ := c_fine hS (sCau_l hL 20 (fun _ => false) t hl) (sFd_l f) f.2.2.2.2.2.1 (w (770 + t))
      have n1 := nFn_r (sCau w 20 (fun _ => false) t) (sFd w t)
      have e := wFn_e (eqo.refl pm w) (sCau_l hL 20 (fun _ => false) t hl) (sFd_l f) (pp w t) (w (770 + t))
      obtain ⟨M2, b1, b2, b3⟩ := c_lFT k (t + 1) n M1 _ _ (x + nFn (sCau w 20 (fun _ => false) t) (sFd w t)) (by rw [e 1543 (pm_f (by omega))]; omega) (by omega) a2 (hL.pm e) (hH.pm e) (by omega) (by omega)
      rw [a1, xb_l, xlet_b, w32_i (by omega) (by omega), b1]
      exact ⟨M2, rfl, b2, a3.trans b3⟩
theorem m_lFT : ∀ (k t n : Nat) (M : xM) (w T : Nat → Int) (h x : Int), (t : Int) + k = w 1543 → k < n → LT w → HF w → 0 ≤ x → x ≤ t → ∃ M3, fX12_endDay_109 400 n x (t : Int) (st M w T h) = fX12_endDay_151 400 xN (lFT k t w T x).2 0 (st M3 (lFT k t w T x).1.1 (lFT k t w T x).1.2 h) ∧ gb M M3
  | _, _, 0, _, _, _, _, _, _, hn, _, _, _, _ => absurd hn (Nat.not_lt_zero _)
  | 0, t, n + 1, M, w, T, h, x, ht, _, hL, hH, h0, h1 => by
    refine ⟨M, ?_, gb.refl M⟩
    rw [fX12_endDay_109, xr_400_0, st_401, if_pos (by omega)]; rfl
  | k + 1, t, n + 1, M, w, T, h, x, ht, hn, hL, hH, h0, h1 => by
    have hl : (t : Int) < w 1543 := by omega
    have f := hL.2 t hl
    have hc := hL.1.2.2.2.1
    unfold lFT
    rw [fX12_endDay_109, xr_400_0, st_401, if_neg (by omega), m_due (M := st M w T h) f, xb_l, if_b0, st_401]
    unfold fX12_endDay_141
    rw [w32_s (by omega)]
    cases sDue w t
    · rw [if_f, if_f, xlet_b, Int.add_zero, w32_i (by omega) (by omega)]
      exact m_lFT k (t + 1) n M w T h x (by omega) (by omega) hL hH h0 (by omega)
    · rw [if_t, if_t]
      obtain ⟨M1, a1, a2⟩ := m_fineOf (M := M) (T := T) (h := h) hL hH hl
      have n1 := nFn_r (sCau w 20 (fun _ => false) t) (sFd w t)
      have e := wFn_e (eqo.refl pm w) (sCau_l hL 20 (fun _ => false) t hl) (sFd_l f) (pp w t) (w (770 + t))
      obtain ⟨M2, b1, b2⟩ := m_lFT k (t + 1) n M1 (wFn w (sCau w 20 (fun _ => false) t) (sFd w t) (pp w t) (w (770 + t))) (tFn T (sCau w 20 (fun _ => false) t) (sFd w t)) h (x + nFn (sCau w 20 (fun _ => false) t) (sFd w t)) (by rw [e 1543 (pm_f (by omega))]; omega) (by omega) (hL.pm e) (hH.pm e) (by omega) (by omega)
      rw [a1, xb_l, xlet_b, w32_i (by omega) (by omega), b1]
      exact ⟨M2, rfl, a2.trans b2⟩
/-- the fines of loans that are recalled -/
def sLt (w : Nat → Int) (l : Nat) : Bool := decide (w (1030 + l) = 1) && decide (0 ≤ w (990 + l))
def lFL : Nat → Nat → (Nat → Int) → (Nat → Int) → Int → ((Nat → Int) × (Nat → Int)) × Int
  | 0, _, w, T, x => ((w, T), x)
  | k + 1, l, w, T, x => if sLt w l then lFL k (l + 1) (wFn w (w (930 + l)).toNat (w (950 + l)).toNat (w (970 + l)).toNat (w (990 + l))) (tFn T (w (930 + l)).toNat (w (950 + l)).toNat) (x + nFn (w (930 + l)).toNat (w (950 + l)).toNat) else lFL k (l + 1) w T x
theorem IL.pm {w w' : Nat → Int} (h : IL w) (e : eqo pm w w') : IL w' := h.fr (fun j _ => e j (pm_f (by omega)))
theorem IL.nat {w : Nat → Int} (h : IL w) (hC : IC w) {l : Nat} (hl : (l : Int) < w 1545) : ∃ b d s : Nat, w (930 + l) = (b : Int) ∧ w (950 + l) = (d : Int) ∧ w (970 + l) = (s : Int) ∧ b < 10 ∧ d < 10 ∧ s < 4 := by
  have c0 := hC.1
  have c1 := hC.2.1
  have c5 := hC.2.2.2.2.2.1
  obtain ⟨h1, h2, h3, -⟩ := h l (by omega) hl
  exact ⟨(w (930 + l)).toNat, (w (950 + l)).toNat, (w (970 + l)).toNat, by omega, by omega, by omega, by omega, by omega, by omega⟩
theorem IC.pm {w w' : Nat → Int} (h : IC w) (e : eqo pm w w') : IC w' := h.fr (fun j _ _ => e j (pm_f (by omega)))
theorem lFL_e {w0 : Nat → Int} : ∀ (k l : Nat) (w T : Nat → Int) (x : Int), IC w → IL w → (l : Int) + k ≤ w 1545 → eqo pm w0 w → eqo pm w0 (lFL k l w T x).1.1
  | 0, _, _, _, _, _, _, _, h => h
  | k + 1, l, w, T, x, hC, hL, hl, h => by
    unfold lFL
    split
    · obtain ⟨b, d, s, e1, e2, e3, hb, hd, hs⟩ := hL.nat hC (l := l) (by omega)
      rw [e1, e2, e3, Int.toNat_natCast, Int.toNat_natCast, Int.toNat_natCast]
      have e := wFn_e (eqo.refl pm w) hb hd s (w (990 + l))
      exact lFL_e k (l + 1) _ _ _ (hC.pm e) (hL.pm e) (by rw [e 1545 (pm_f (by omega))]; omega) (h.trans e)
    · exact lFL_e k (l + 1) w T x hC hL (by omega) h
theorem lFL_x : ∀ (k t : Nat) (w T : Nat → Int) (x : Int), x ≤ (lFL k t w T x).2 ∧ (lFL k t w T x).2 ≤ x + k
  | 0, _, _, _, x => ⟨Int.le_refl x, by show x ≤ _; omega⟩
  | k + 1, t, w, T, x => by
    unfold lFL
    split
    · have n := nFn_r (w (930 + t)).toNat (w (950 + t)).toNat
      have := lFL_x k (t + 1) (wFn w (w (930 + t)).toNat (w (950 + t)).toNat (w (970 + t)).toNat (w (990 + t))) (tFn T (w (930 + t)).toNat (w (950 + t)).toNat) (x + nFn (w (930 + t)).toNat (w (950 + t)).toNat)
      omega
    · have := lFL_x k (t + 1) w T x; omega
theorem c_lFL : ∀ (k l n : Nat) (M : xM) (w T : Nat → Int) (x : Int), (l : Int) + k = w 1545 → k < n → SS M w T → IC w → IL w → 0 ≤ x → x ≤ 100 + l → ∃ M', fX3_tellFinesOfLoans_4 399 n x (l : Int) M = some (.inl (lFL k l w T x).2, M') ∧ SS M' (lFL k l w T x).1.1 (lFL k l w T x).1.2 ∧ fz M M'
  | _, _, 0, _, _, _, _, _, hn, _, _, _, _, _ => absurd hn (Nat.not_lt_zero _)
  | 0, l, n + 1, M, w, T, x, ht, _, hS, hC, hL, h0, h1 => by
    refine ⟨M, ?_, hS, fz.refl M⟩
    rw [fX3_tellFinesOfLoans_4, xr_399_0, if_pos (by rw [hS.1.nL]; omega)]; rfl
  | k + 1, l, n + 1, M, w, T, x, ht, hn, hS, hC, hL, h0, h1 => by
    have hl : (l : Int) < w 1545 := by omega
    have c5 := hC.2.2.2.2.2.1
    have hl4 : l < 20 := by omega
    obtain ⟨b, d, s, e1, e2, e3, hb, hd, hs⟩ := hL.nat hC hl
    have b5 := (hL l hl4 hl).2.2.2.2.2
    have ih := c_lFL k (l + 1) n M w T x (by omega) (by omega) hS hC hL h0 (by omega)
    unfold lFL
    rw [fX3_tellFinesOfLoans_4, xr_399_0, if_neg (by rw [hS.1.nL]; omega), c_lon (by omega), xb_l, Int.toNat_natCast, hS.1.lrec hl4 hl, b5.nz]
    unfold fX3_tellFinesOfLoans_61 sLt
    rw [w32_s (by omega)]
    cases decide (w (1030 + l) = 1)
    · exact ih
    · rw [if_t, Bool.true_and]
      rcases hS.1.2.2.1 l hl4 hl with ⟨q1, q2, q3⟩ | ⟨q1, q2⟩
      · rw [q1, if_pos rfl, decide_eq_true q3, if_t, hS.1.lbor hl4 hl, hS.1.llen hl4 hl, hS.1.lsec hl4 hl, q2, e1, e2, e3, Int.toNat_natCast, Int.toNat_natCast, Int.toNat_natCast]
        obtain ⟨M1, a1, a2, a3⟩ := c_fine hS hb hd hs (w (990 + l))
        have n1 := nFn_r b d
        have e := wFn_e (eqo.refl pm w) hb hd s (w (990 + l))
        obtain ⟨M2, b1, b2, b3⟩ := c_lFL k (l + 1) n M1 _ _ (x + nFn b d) (by rw [e 1545 (pm_f (by omega))]; omega) (by omega) a2 (hC.pm e) (hL.pm e) (by omega) (by omega)
        rw [a1, xb_l, xlet_b, w32_i (by omega) (by omega), b1]
        exact ⟨M2, rfl, b2, a3.trans b3⟩
      · rw [q1, if_neg (by decide), decide_eq_false (by omega), if_f]; exact ih
theorem m_lFL : ∀ (k l n : Nat) (M : xM) (w T : Nat → Int) (h x : Int), (l : Int) + k = w 1545 → k < n → IC w → IL w → 0 ≤ x → x ≤ 100 + l → fX12_endDay_151 400 n x (l : Int) (st M w T h) = fX12_endDay_267 400 (lFL k l w T x).2 xN 0 (st M (lFL k l w T x).1.1 (lFL k l w T x).1.2 h)
  | _, _, 0, _, _, _, _, _, _, hn, _, _, _, _ => absurd hn (Nat.not_lt_zero _)
  | 0, l, n + 1, M, w, T, h, x, ht, _, hC, hL, h0, h1 => by
    rw [fX12_endDay_151, xr_400_0, st_401, if_pos (by omega)]; rfl
  | k + 1, l, n + 1, M, w, T, h, x, ht, hn, hC, hL, h0, h1 => by
    have hl : (l : Int) < w 1545 := by omega
    have c5 := hC.2.2.2.2.2.1
    have hl4 : l < 20 := by omega
    obtain ⟨b, d, s, e1, e2, e3, hb, hd, hs⟩ := hL.nat hC hl
    have ih := m_lFL k (l + 1) n M w T h x (by omega) (by omega) hC hL h0 (by omega)
    have e0 : fX12_endDay_200 (fX12_endDay_151 400 n) 400 x (l : Int) 0 (st M w T h) = fX12_endDay_267 400 (lFL k (l + 1) w T x).2 xN 0 (st M (lFL k (l + 1) w T x).1.1 (lFL k (l + 1) w T x).1.2 h) := by
      unfold fX12_endDay_200 fX12_endDay_257
      rw [if_pos rfl, xlet_b, Int.add_zero, w32_i (by omega) (by omega), w32_s (by omega)]; exact ih
    unfold lFL
    rw [fX12_endDay_151, xr_400_0, st_401, if_neg (by omega)]
    unfold fX12_endDay_199 sLt
    rw [e0]
    simp (disch := omega) only [w32_i, xix_t, tn_add, Int.toNat_natCast, Int.reduceToNat]
    by_cases q : w (1030 + l) = 1
    · rw [if_pos q, decide_eq_true q, Bool.true_and]
      by_cases z : w (990 + l) < 0
      · rw [if_pos z, decide_eq_false (by omega), if_f]
      · rw [if_neg z, decide_eq_true (by omega), if_t, e1, e2, e3, Int.toNat_natCast, Int.toNat_natCast, Int.toNat_natCast]
        have n1 := nFn_r b d
        have e := wFn_e (eqo.refl pm w) hb hd s (w (990 + l))
        have ih2 := m_lFL k (l + 1) n M (wFn w b d s (w (990 + l))) (tFn T b d) h (x + nFn b d) (by rw [e 1545 (pm_f (by omega))]; omega) (by omega) (hC.pm e) (hL.pm e) (by omega) (by omega)
        unfold fX12_endDay_200 fX12_endDay_257
        rw [if_neg (by decide), xr_400_0, st_401]
        simp (disch := omega) only [w32_i, xix_t, tn_add, Int.toNat_natCast, Int.reduceToNat, e1, e2, e3]
        rw [m_fine hb hd hs, xb_l, xlet_b, w32_i (by omega) (by omega), show (l : Int) + 1 = ((l + 1 : Nat) : Int) by omega, ih2]
    · rw [if_neg q, decide_eq_false q, Bool.false_and, if_f]
