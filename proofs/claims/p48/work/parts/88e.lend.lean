-- loans that a trade would take: what each account lends
def gv (x : Nat → Int) (t a : Nat) : Int := if x (60 + a) = 1 ∧ a ≠ dl x t ∧ a ≠ rc x t then sFree x a (pp x t) else 0
def rm (x : Nat → Int) (t : Nat) : Nat → Int
  | 0 => x (770 + t) - sFree x (dl x t) (pp x t)
  | n + 1 => rm x t n - max 0 (min (rm x t n) (gv x t n))
def lnt (x : Nat → Int) (t a : Nat) : Int := max 0 (min (rm x t a) (gv x t a))
theorem rm_s (x : Nat → Int) (t n : Nat) : rm x t (n + 1) = rm x t n - lnt x t n := rfl
/-- how many lend -/
def mdn (x : Nat → Int) (t : Nat) : Nat → Nat
  | 0 => 0
  | n + 1 => mdn x t n + (if 0 < lnt x t n then 1 else 0)
theorem mdn_s (x : Nat → Int) (t n : Nat) : mdn x t (n + 1) = mdn x t n + (if 0 < lnt x t n then 1 else 0) := rfl
theorem mdn_le (x : Nat → Int) (t : Nat) : ∀ n, mdn x t n ≤ n
  | 0 => Nat.le_refl 0
  | n + 1 => by have := mdn_le x t n; rw [mdn_s]; split <;> omega
/-- a live trade that lacks units -/
def LK (x : Nat → Int) (t : Nat) : Prop := Inv0 x ∧ (t : Int) < x 1543 ∧ 0 < rm x t 0
theorem LK.f {x : Nat → Int} {t : Nat} (h : LK x t) : TF x t := h.1.tf h.2.1
theorem LK.free {x : Nat → Int} {t : Nat} (h : LK x t) {a s : Nat} (ha : a < 10) (hs : s < 4) : sFree x a s = x (100 + 4 * a + s) - x (140 + 4 * a + s) ∧ 0 ≤ sFree x a s ∧ sFree x a s ≤ 59049000000 ∧ (x 1540 ≤ (a : Int) → sFree x a s = 0) := by
  have kq := KQ_le x
  have la := h.1.2.2.2.1.le ha hs
  have k := h.1.2.2.2.1.1 a s ha hs
  have e : sFree x a s = x (100 + 4 * a + s) - x (140 + 4 * a + s) := w64_i (by omega) (by omega)
  rw [e]
  exact ⟨rfl, by omega, by omega, fun z => by have := k.2.2.1 z; omega⟩
theorem LK.g1 {x : Nat → Int} {t : Nat} (h : LK x t) {a : Nat} (ha : a < 10) : 0 ≤ gv x t a ∧ gv x t a ≤ 59049000000 ∧ (x 1540 ≤ (a : Int) → gv x t a = 0) := by
  have f := h.f
  have k := h.free ha f.2.2.2.2.2.1
  have e : ∀ y : Int, y = (if x (60 + a) = 1 ∧ a ≠ dl x t ∧ a ≠ rc x t then sFree x a (pp x t) else 0) → 0 ≤ y ∧ y ≤ 59049000000 ∧ (x 1540 ≤ (a : Int) → y = 0) := fun y hy => by
    rw [hy]; split
    · exact k.2
    · omega
  exact e _ rfl
theorem LK.r0 {x : Nat → Int} {t : Nat} (h : LK x t) : 0 ≤ rm x t 0 ∧ rm x t 0 ≤ x (770 + t) ∧ x (770 + t) ≤ 59049000000 := by
  have f := h.f
  have kq := KQ_le x
  have k := h.free f.2.2.2.1 f.2.2.2.2.2.1
  obtain ⟨-, -, -, t4, -⟩ := (h.1.2.2.2.2.2.1 t f.1).1 h.2.1
  have := h.2.2
  have e : rm x t 0 = x (770 + t) - sFree x (dl x t) (pp x t) := rfl
  omega
theorem LK.r1 {x : Nat → Int} {t : Nat} (h : LK x t) : ∀ n, n ≤ 10 → 0 ≤ rm x t n ∧ rm x t n ≤ rm x t 0
  | 0, _ => ⟨h.r0.1, Int.le_refl _⟩
  | n + 1, hn => by
    have ih := LK.r1 h n (by omega)
    have g := h.g1 (a := n) (by omega)
    rw [rm_s]; unfold lnt; omega
theorem LK.ln {x : Nat → Int} {t : Nat} (h : LK x t) {a : Nat} (ha : a < 10) : 0 ≤ lnt x t a ∧ lnt x t a ≤ gv x t a ∧ lnt x t a ≤ rm x t a ∧ (x 1540 ≤ (a : Int) → lnt x t a = 0) := by
  have ih := h.r1 a (by omega)
  have g := h.g1 ha
  unfold lnt
  refine ⟨by omega, by omega, by omega, fun z => ?_⟩
  have := g.2.2 z; omega
theorem LK.lz {x : Nat → Int} {t : Nat} (h : LK x t) {a : Nat} (hl : 0 < lnt x t a) (ha : a < 10) : x (60 + a) = 1 ∧ a ≠ dl x t ∧ a ≠ rc x t ∧ (a : Int) < x 1540 ∧ lnt x t a ≤ sFree x a (pp x t) := by
  have k := h.ln ha
  have g : 0 < gv x t a := by omega
  by_cases z : x (60 + a) = 1 ∧ a ≠ dl x t ∧ a ≠ rc x t
  · have e : gv x t a = sFree x a (pp x t) := if_pos z
    refine ⟨z.1, z.2.1, z.2.2, ?_, by omega⟩
    by_cases y : (a : Int) < x 1540
    · exact y
    · have := k.2.2.2 (by omega); omega
  · have e : gv x t a = 0 := if_neg z
    omega
/-- what a loan adds -/
def dL (D s : Nat) (P : Int) (a : Nat) (y : Int) (j : Nat) : Int := (if j = 100 + 4 * a + s then -y else 0) + (if j = 100 + 4 * D + s then y else 0) + (if j = 40 + D then y * P else 0)
theorem dL_n {D s : Nat} {P : Int} {a : Nat} {y : Int} (j : Nat) : dL D s P a (-y) j = - dL D s P a y j := by
  unfold dL
  have : -y * P = -(y * P) := Int.neg_mul y P
  rw [this]
  split <;> split <;> split <;> omega
theorem dL_0 {D s : Nat} {P : Int} {a j : Nat} : dL D s P a 0 j = 0 := by
  unfold dL
  rw [Int.zero_mul]
  split <;> split <;> split <;> rfl
theorem wA_dL {w : Nat → Int} (hq : CQ w) {D s a : Nat} (hD : D < 10) (ha : a < 10) (hs : s < 4) {P y : Int} (h : a ≠ D ∨ y = 0) : ups (ups (ups w (100 + 4 * a + s) (w64 (w (100 + 4 * a + s) - y))) (100 + 4 * D + s) (w64 (ups w (100 + 4 * a + s) (w64 (w (100 + 4 * a + s) - y)) (100 + 4 * D + s) + y))) (40 + D) (w64 (w (40 + D) + w64 (y * P))) = wA w (dL D s P a y) := by
  funext j
  by_cases z3 : j = 40 + D
  · rw [z3, ups_same, wA_c (cel_t (by omega)), w64_add']
    unfold dL
    rw [if_neg (by omega), if_neg (by omega), if_pos rfl]
    rw [Int.zero_add, Int.zero_add]
  · rw [ups_ne z3]
    by_cases z2 : j = 100 + 4 * D + s
    · rw [z2, ups_same, wA_c (cel_t (by omega))]
      unfold dL
      by_cases q : a = D
      · have y0 : y = 0 := by
          rcases h with h | h
          · exact absurd q h
          · exact h
        rw [q, ups_same, y0, if_pos rfl, if_pos rfl, if_neg (by omega), w64_add]
        have : w (100 + 4 * D + s) - 0 + 0 = w (100 + 4 * D + s) + (-0 + 0 + 0) := by omega
        rw [this]
      · rw [ups_ne (by omega), if_neg (by omega), if_pos rfl, if_neg (by omega)]
        rw [Int.zero_add, Int.add_zero]
    · rw [ups_ne z2]
      by_cases z1 : j = 100 + 4 * a + s
      · rw [z1, ups_same, wA_c (cel_t (by omega))]
        unfold dL
        rw [if_pos rfl, if_neg (by omega), if_neg (by omega), Int.add_zero, Int.add_zero]; rfl
      · rw [ups_ne z1]
        have e : dL D s P a y j = 0 := by unfold dL; rw [if_neg z1, if_neg z2, if_neg z3]; rfl
        cases q : cel j
        · unfold wA; rw [q, if_f]
        · rw [wA_c q, e, Int.add_zero, w64_id (hq j q)]
/-- all that is lent, up to an account -/
def DL (x : Nat → Int) (t n j : Nat) : Int := sm (fun a => dL (dl x t) (pp x t) (x (184 + pp x t)) a (lnt x t a) j) n
theorem DL_s (x : Nat → Int) (t n j : Nat) : DL x t (n + 1) j = DL x t n j + dL (dl x t) (pp x t) (x (184 + pp x t)) n (lnt x t n) j := rfl
-- the class finds lenders
theorem c_fl {M : xM} {x : Nat → Int} (hR : R M x) {t : Nat} (h : LK x t) : ∀ (k a n : Nat) (N : xM), a + k = 10 → k < n → (∀ c, c ≠ 398 → N c = M c) → (∀ i, i < a → N 398 i = lnt x t i) → ∃ M', fX2_findLenders_27 395 (102 + t) n (rm x t a) (a : Int) N = some (.inl 0, M') ∧ (∀ c, c ≠ 398 → M' c = M c) ∧ ∀ i, i < 10 → M' 398 i = lnt x t i
  | _, _, 0, _, _, hn, _, _ => absurd hn (Nat.not_lt_zero _)
  | 0, a, n + 1, N, ha, _, h1, h2 => ⟨N, by rw [fX2_findLenders_27, if_pos (by omega)]; rfl, h1, fun i hi => h2 i (by omega)⟩
  | k + 1, a, n + 1, N, ha, hn, h1, h2 => by
    have f := h.f
    have a10 : a < 10 := by omega
    have kl := h.ln a10
    have kr := h.r1 a (by omega)
    have k0 := h.r0
    have hN : R N x := hR.fr (fun c _ _ => h1 c (by omega))
    obtain ⟨M', b1, b2, b3⟩ := c_fl hR h k (a + 1) n (xup N 398 a (lnt x t a)) (by omega) (by omega) (fun c hc => by rw [xup_row hc]; exact h1 c hc) (fun i hi => by
      by_cases z : i = a
      · rw [z, xup_same]
      · rw [xup_k z]; exact h2 i (by omega))
    refine ⟨M', ?_, b2, b3⟩
    have e99 : ∀ s0, s0 = gv x t a → fX2_findLenders_99 (fX2_findLenders_27 395 (102 + t) n) 395 (102 + t) (rm x t a) (a : Int) s0 N = some (.inl 0, M') := fun s0 hs => by
      unfold fX2_findLenders_99
      rw [xix_t (by omega) (by omega), xr_395_3, xput_b, xix_t (by omega) (by omega), xlet_b, Int.toNat_natCast, hs, show max 0 (min (rm x t a) (gv x t a)) = lnt x t a from rfl, xup_same, w64_i (by omega) (by omega), w32_s (by omega), ← rm_s]
      exact b1
    have b6 : B01 (x (60 + a)) := (h.1.2.1 a a10).2.2.1
    have e78 : ¬ (x (60 + a) = 1 ∧ a ≠ dl x t ∧ a ≠ rc x t) → fX2_findLenders_78 (fX2_findLenders_27 395 (102 + t) n) 395 (102 + t) (rm x t a) (a : Int) (12 + 4 * a) N = some (.inl 0, M') := fun z => by
      unfold fX2_findLenders_78 fX2_findLenders_79
      rw [if_pos rfl]; exact e99 0 (if_neg z).symm
    rw [fX2_findLenders_27, if_neg (by omega), xr_395_0, c_acc (by omega), xb_l, Int.toNat_natCast, hN.lends a10, hN.tD h.2.1 f, hN.tR h.2.1 f]
    by_cases z1 : x (60 + a) = 0
    · rw [if_pos z1]; exact e78 (fun z => by omega)
    · rw [if_neg z1]
      by_cases z2 : a = dl x t
      · rw [if_pos (by omega)]; exact e78 (fun z => z.2.1 z2)
      · rw [if_neg (by omega)]
        by_cases z3 : a = rc x t
        · rw [if_pos (by omega)]; exact e78 (fun z => z.2.2 z3)
        · rw [if_neg (by omega)]
          unfold fX2_findLenders_79
          rw [if_neg (by decide), hN.tP h.2.1 f, c_free hN a10 f.2.2.2.2.2.1, xb_l]
          have b6' : x (60 + a) = 1 := by
            rcases b6 with y | y
            · exact absurd y z1
            · exact y
          exact e99 _ (if_pos ⟨b6', z2, z3⟩).symm
theorem c_find' {M : xM} {x : Nat → Int} (hR : R M x) {t : Nat} (h : LK x t) : ∃ M', fX2_findLenders 395 (102 + t) M = some (.inl 0, M') ∧ (∀ c, c ≠ 398 → M' c = M c) ∧ ∀ i, i < 10 → M' 398 i = lnt x t i := by
  have f := h.f
  have k0 := h.r0
  obtain ⟨M', b1, b2, b3⟩ := c_fl hR h 10 0 xN M (by omega) (by unfold xN; omega) (fun _ _ => rfl) (fun i hi => absurd hi (Nat.not_lt_zero _))
  refine ⟨M', ?_, b2, b3⟩
  have e : w64 (x (770 + t) - sFree x (dl x t) (pp x t)) = rm x t 0 := w64_i (by have : rm x t 0 = x (770 + t) - sFree x (dl x t) (pp x t) := rfl; omega) (by have : rm x t 0 = x (770 + t) - sFree x (dl x t) (pp x t) := rfl; omega)
  have d1 := f.2.2.2.1
  unfold fX2_findLenders
  rw [xr_395_0, hR.tD h.2.1 f, c_acc (by omega), xb_l, Int.toNat_natCast, hR.tP h.2.1 f, c_free hR f.2.2.2.1 f.2.2.2.2.2.1, xb_l, xlet_b, hR.tun f.1, e]
  exact b1
theorem c_sum {M : xM} {x : Nat → Int} {t : Nat} (h : LK x t) (h8 : ∀ i, i < 10 → M 398 i = lnt x t i) : fX11_sumOf 398 M = some (.inl (rm x t 0 - rm x t 10), M) := by
  have key : ∀ k a n, a + k = 10 → k < n → fX11_sumOf_4 398 n (rm x t 0 - rm x t a) (a : Int) M = some (.inl (rm x t 0 - rm x t 10), M) := by
    intro k
    induction k with
    | zero =>
      intro a n ha hn
      obtain ⟨m, rfl⟩ : ∃ m, n = m + 1 := ⟨n - 1, by omega⟩
      have : a = 10 := by omega
      subst this
      rw [fX11_sumOf_4, xln_398, if_pos (by omega)]; rfl
    | succ k ih =>
      intro a n ha hn
      obtain ⟨m, rfl⟩ : ∃ m, n = m + 1 := ⟨n - 1, by omega⟩
      have kl := h.ln (a := a) (by omega)
      have kr := h.r1 a (by omega)
      have k0 := h.r0
      have i2 := ih (a + 1) m (by omega) (by omega)
      rw [fX11_sumOf_4, xln_398, if_neg (by omega), xix_t (by omega) (by omega), xlet_b, Int.toNat_natCast, h8 a (by omega), w64_i (by omega) (by omega), w32_s (by omega)]
      rw [rm_s, show rm x t 0 - (rm x t a - lnt x t a) = rm x t 0 - rm x t a + lnt x t a by omega] at i2
      exact i2
  unfold fX11_sumOf
  have := key 10 0 xN (by omega) (by unfold xN; omega)
  rw [show rm x t 0 - rm x t 0 = 0 by omega] at this
  exact this
