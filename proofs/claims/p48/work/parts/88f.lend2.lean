-- the class tries loans
theorem sm_abs {g : Nat → Int} {B : Int} : ∀ n, (∀ k, k < n → -B ≤ g k ∧ g k ≤ B) → -(n * B) ≤ sm g n ∧ sm g n ≤ n * B
  | 0, _ => by unfold sm; omega
  | n + 1, h => by
    have := sm_abs (g := g) n (fun k hk => h k (by omega))
    have := h n (by omega)
    have e : ((n + 1 : Nat) : Int) * B = n * B + B := by rw [Int.natCast_add, Int.add_mul]; omega
    have e2 : sm g (n + 1) = sm g n + g n := rfl
    rw [e2, e]; omega
theorem DL_h {x : Nat → Int} {t : Nat} (h : LK x t) {n : Nat} (hn : n ≤ 10) {j : Nat} (hj : 100 ≤ j) : -590490000000 ≤ DL x t n j ∧ DL x t n j ≤ 590490000000 := by
  have f := h.f
  have d1 := f.2.2.2.1
  have b := sm_abs (g := fun a => dL (dl x t) (pp x t) (x (184 + pp x t)) a (lnt x t a) j) (B := 59049000000) n (fun a ha => by
    have k := h.ln (a := a) (by omega)
    have g := h.g1 (a := a) (by omega)
    show -59049000000 ≤ dL _ _ _ a (lnt x t a) j ∧ dL _ _ _ a (lnt x t a) j ≤ 59049000000
    unfold dL
    rw [if_neg (c := j = 40 + dl x t) (by omega)]
    split <;> split <;> omega)
  unfold DL; omega
/-- the trial: all loans and the trade -/
def TD (x : Nat → Int) (t j : Nat) : Int := DL x t 10 j + dT x t (x (770 + t)) (x (790 + t)) j
theorem TD_hb {x : Nat → Int} {t : Nat} (h : LK x t) {a : Nat} (ha : a < 10) : hb (wA x (TD x t)) a := fun s hs => by
  have kq := KQ_le x
  have la := h.1.2.2.2.1.le ha hs
  have p := (h.1.2.2.1.1 s hs).2.1
  have k0 := h.r0
  have d := DL_h h (n := 10) (by omega) (j := 100 + 4 * a + s) (by omega)
  have e := dT_b (w := x) (t := t) (u := x (770 + t)) (a := x (790 + t)) (by omega) (j := 100 + 4 * a + s) (by omega) h.f
  rw [wA_c (cel_t (by omega)), wA_n (by omega), wA_n (by omega)]
  unfold TD
  rw [w64_i (by omega) (by omega)]
  omega
theorem c_shl {x : Nat → Int} {t : Nat} (h : LK x t) (s : Int) (hs : s = 1 ∨ s = -1) (E : Nat → Nat → Int) (hE : ∀ a, a < 10 → ∀ j, E (a + 1) j = E a j + dL (dl x t) (pp x t) (x (184 + pp x t)) a (s * lnt x t a) j) : ∀ (k a n : Nat) (M : xM), a + k = 10 → k < n → R M (wA x (E a)) → (∀ i, i < 10 → M 398 i = lnt x t i) → ∃ M', fX2_shiftLoans_15 395 (102 + t) s (12 + 4 * dl x t) n (a : Int) M = some (.inl 0, M') ∧ R M' (wA x (E 10)) ∧ fs M M'
  | _, _, 0, _, _, hn, _, _ => absurd hn (Nat.not_lt_zero _)
  | 0, a, n + 1, M, ha, _, hR, _ => by
    have : a = 10 := by omega
    subst this
    exact ⟨M, by rw [fX2_shiftLoans_15, if_pos (by omega)]; rfl, hR, fs.refl M⟩
  | k + 1, a, n + 1, M, ha, hn, hR, h8 => by
    have a10 : a < 10 := by omega
    have f := h.f
    obtain ⟨f0, -, -, d1, -, p1, -⟩ := id f
    have kl := h.ln a10
    have kg := h.g1 a10
    have kr := h.r1 a (by omega)
    obtain ⟨g1, -, -, e1, e2, e3⟩ := f.wA (E a)
    have hl : (t : Int) < wA x (E a) 1543 := by rw [wA_n (by omega)]; exact h.2.1
    have hy : w64 (s * lnt x t a) = s * lnt x t a := by
      rcases hs with z | z
      · rw [z]; exact w64_i (by omega) (by omega)
      · rw [z]; exact w64_i (by omega) (by omega)
    have hny : w64 (-(s * lnt x t a)) = -(s * lnt x t a) := by
      rcases hs with z | z
      · rw [z]; exact w64_i (by omega) (by omega)
      · rw [z]; exact w64_i (by omega) (by omega)
    have hne : a ≠ dl x t ∨ s * lnt x t a = 0 := by
      by_cases z : 0 < lnt x t a
      · exact Or.inl (h.lz z a10).2.1
      · right; rw [show lnt x t a = 0 by omega]; exact Int.mul_zero s
    have hP : wA x (E a) (184 + pp x t) = x (184 + pp x t) := wA_n (by omega)
    generalize hy0 : s * lnt x t a = y at *
    have hEa := hE a a10
    rw [hy0] at hEa
    have q := wA_dL (wA_q x (E a)) d1 a10 p1 (P := x (184 + pp x t)) hne
    rw [wA_wA, wA_e (E := E (a + 1)) (fun j => (hEa j).symm)] at q
    have r1 := hR.held_up a10 p1 (v := w64 (wA x (E a) (100 + 4 * a + pp x t) - y))
    have r2 := r1.held_up d1 p1 (v := w64 (ups (wA x (E a)) (100 + 4 * a + pp x t) (w64 (wA x (E a) (100 + 4 * a + pp x t) - y)) (100 + 4 * dl x t + pp x t) + y))
    have r3 := r2.pled_up d1 (v := w64 (wA x (E a) (40 + dl x t) + w64 (y * x (184 + pp x t))))
    rw [q] at r3
    obtain ⟨M', b1, b2, b3⟩ := c_shl h s hs E hE k (a + 1) n _ (by omega) (by omega) r3 (fun i hi => by rw [xup_c (by omega), xup_c (by omega), xup_c (by omega)]; exact h8 i hi)
    refine ⟨M', ?_, b2, fun c hc => by rw [b3 c hc, xup_row (by omega), xup_row (by omega), xup_row (by omega)]⟩
    have cw := c_wor r2 p1 y
    rw [ups_ne (i := 184 + pp x t) (by omega), ups_ne (i := 184 + pp x t) (by omega), hP] at cw
    rw [fX2_shiftLoans_15, if_neg (by omega), xix_t (by omega) (by omega), xr_395_3, xr_395_0, Int.toNat_natCast, h8 a a10, hy0, hy, xlet_b, c_acc (by omega), xb_l, Int.toNat_natCast, hR.tP hl g1, e3, hny, c_shft a10 p1, xb_l, hR.held a10 p1, xup_c (a := 102 + t) (by omega), hR.tP hl g1, e3, c_shft d1 p1, xb_l, show wA x (E a) (100 + 4 * a + pp x t) + -y = wA x (E a) (100 + 4 * a + pp x t) - y from rfl, r1.held d1 p1, xup_c (a := 102 + t) (by omega), xup_c (a := 102 + t) (by omega), hR.tP hl g1, e3, cw, xb_l, r2.pled d1, ups_ne (i := 40 + dl x t) (by omega), ups_ne (i := 40 + dl x t) (by omega), xput_b, w32_s (by omega)]
    exact b1
theorem c_shls {M : xM} {x : Nat → Int} {t : Nat} (h : LK x t) (hQ : CQ x) (hR : R M x) (h8 : ∀ i, i < 10 → M 398 i = lnt x t i) : ∃ M', fX2_shiftLoans 395 (102 + t) 1 M = some (.inl 0, M') ∧ R M' (wA x (DL x t 10)) ∧ fs M M' := by
  have f := h.f
  have d1 := f.2.2.2.1
  obtain ⟨M', a1, a2, a3⟩ := c_shl h 1 (Or.inl rfl) (DL x t) (fun a _ j => by rw [Int.one_mul]; rfl) 10 0 xN M (by omega) (by unfold xN; omega) (by rw [show wA x (DL x t 0) = x from wA_0 hQ (fun j => rfl)]; exact hR) h8
  refine ⟨M', ?_, a2, a3⟩
  unfold fX2_shiftLoans
  rw [xr_395_0, hR.tD h.2.1 f, c_acc (by omega), xb_l, Int.toNat_natCast]; exact a1
theorem c_shlb {M : xM} {x : Nat → Int} {t : Nat} (h : LK x t) (hQ : CQ x) (hR : R M (wA x (DL x t 10))) (h8 : ∀ i, i < 10 → M 398 i = lnt x t i) : ∃ M', fX2_shiftLoans 395 (102 + t) (-1) M = some (.inl 0, M') ∧ R M' x ∧ fs M M' := by
  have f := h.f
  have d1 := f.2.2.2.1
  obtain ⟨f1, -, -, e1, -⟩ := f.wA (DL x t 10)
  obtain ⟨M', a1, a2, a3⟩ := c_shl h (-1) (Or.inr rfl) (fun a j => DL x t 10 j - DL x t a j) (fun a _ j => by rw [Int.neg_one_mul, dL_n, DL_s x t a j]; omega) 10 0 xN M (by omega) (by unfold xN; omega) (by
    rw [wA_e (E := DL x t 10) (fun j => by show DL x t 10 j - 0 = _; omega)]; exact hR) h8
  rw [wA_0 hQ (fun j => by show DL x t 10 j - DL x t 10 j = 0; omega)] at a2
  refine ⟨M', ?_, a2, a3⟩
  unfold fX2_shiftLoans
  rw [xr_395_0, hR.tD (by rw [wA_n (by omega)]; exact h.2.1) f1, e1, c_acc (by omega), xb_l, Int.toNat_natCast]; exact a1
def lfA (x : Nat → Int) (t : Nat) (y : Nat → Int) : Nat → Nat → Bool
  | 0, _ => true
  | k + 1, a => (!decide (0 < lnt x t a) || sSnd y a) && lfA x t y k (a + 1)
theorem lfA_s (x : Nat → Int) (t : Nat) (y : Nat → Int) (k a : Nat) : lfA x t y (k + 1) a = ((!decide (0 < lnt x t a) || sSnd y a) && lfA x t y k (a + 1)) := rfl
theorem c_lf {M : xM} {x y : Nat → Int} {t : Nat} (hR : R M y) (hh : ∀ a, a < 10 → hb y a) (h0 : 0 ≤ y 1541) (h1 : y 1541 ≤ 4) (h8 : ∀ i, i < 10 → M 398 i = lnt x t i) : fX2_areLendersFirm 395 M = some (.inl (bi (lfA x t y 10 0)), M) := by
  have key : ∀ k a n : Nat, a + k = 10 → k < n → fX2_areLendersFirm_2 395 n (a : Int) M = some (.inl (bi (lfA x t y k a)), M) := by
    intro k
    induction k with
    | zero =>
      intro a n ha hn
      obtain ⟨m, rfl⟩ : ∃ m, n = m + 1 := ⟨n - 1, by omega⟩
      rw [fX2_areLendersFirm_2, if_pos (by omega)]; rfl
    | succ k ih =>
      intro a n ha hn
      obtain ⟨m, rfl⟩ : ∃ m, n = m + 1 := ⟨n - 1, by omega⟩
      have a10 : a < 10 := by omega
      rw [fX2_areLendersFirm_2, if_neg (by omega), xix_t (by omega) (by omega), xr_395_3, Int.toNat_natCast, h8 a a10]
      unfold fX2_areLendersFirm_35
      rw [w32_s (by omega), ih (a + 1) m (by omega) (by omega), xr_395_0, c_firm hR a10 h0 h1 (hh a a10), xb_l, if_b0, lfA_s]
      by_cases z : lnt x t a ≤ 0
      · rw [if_pos z, decide_eq_false (by omega)]; rfl
      · rw [if_neg z, decide_eq_true (by omega)]
        cases sSnd y a
        · rfl
        · rw [if_t, ih (a + 1) m (by omega) (by omega)]; rfl
  unfold fX2_areLendersFirm
  exact key 10 0 xN (by omega) (by unfold xN; omega)
def lFit (x : Nat → Int) (t : Nat) : Bool := sSnd (wA x (TD x t)) (dl x t) && (sSnd (wA x (TD x t)) (rc x t) && lfA x t (wA x (TD x t)) 10 0)
