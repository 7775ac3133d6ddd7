-- the model borrows: are the lenders sound; back again
theorem sSnd_e {y z : Nat → Int} (h : ∀ j, (j < 930 ∨ j = 1541) → y j = z j) (h4 : z 1541 ≤ 4) {a : Nat} (ha : a < 10) : sSnd y a = sSnd z a := by
  have hf : ∀ s, s < 100 → sFree y a s = sFree z a s := fun s hs => by unfold sFree; rw [h _ (by omega), h _ (by omega)]
  have hfc : sFC y a = sFC z a := by unfold sFC; rw [h _ (by omega), h _ (by omega)]
  have hw : ∀ k i v, i + k ≤ 100 → sWor y a k i v = sWor z a k i v := by
    intro k
    induction k with
    | zero => intro i v _; rfl
    | succ k ih =>
      intro i v hi
      show sWor y a k (i + 1) _ = sWor z a k (i + 1) _
      rw [hf i (by omega), h (184 + i) (by omega), ih (i + 1) _ (by omega)]
  have hA : ∀ k i, i + k ≤ 100 → sAll y a k i = sAll z a k i := by
    intro k
    induction k with
    | zero => intro i _; rfl
    | succ k ih =>
      intro i hi
      show (decide (0 ≤ sFree y a i) && sAll y a k (i + 1)) = (decide (0 ≤ sFree z a i) && sAll z a k (i + 1))
      rw [hf i (by omega), ih (i + 1) (by omega)]
  unfold sSnd sLim
  rw [hfc, h 1541 (by omega), h (50 + a) (by omega), hw _ _ _ (by omega), hA _ _ (by omega)]
def rA (y : Nat → Int) (ac : Nat → Nat) : Nat → Nat → Bool
  | 0, _ => true
  | k + 1, r => sSnd y (ac r) && rA y ac k (r + 1)
theorem rA_iff {y : Nat → Int} {ac : Nat → Nat} : ∀ k r, rA y ac k r = true ↔ ∀ u, r ≤ u → u < r + k → sSnd y (ac u) = true
  | 0, r => ⟨fun _ u h1 h2 => by omega, fun _ => rfl⟩
  | k + 1, r => by
    show (sSnd y (ac r) && rA y ac k (r + 1)) = true ↔ _
    rw [Bool.and_eq_true, rA_iff k (r + 1)]
    exact ⟨fun g u h1 h2 => by
      by_cases z : u = r
      · rw [z]; exact g.1
      · exact g.2 u (by omega) (by omega), fun g => ⟨g r (by omega) (by omega), fun u h1 h2 => g u (by omega) (by omega)⟩⟩
theorem lfA_iff {x : Nat → Int} {t : Nat} {y : Nat → Int} : ∀ k a, lfA x t y k a = true ↔ ∀ b, a ≤ b → b < a + k → 0 < lnt x t b → sSnd y b = true
  | 0, a => ⟨fun _ b h1 h2 => by omega, fun _ => rfl⟩
  | k + 1, a => by
    rw [lfA_s, Bool.and_eq_true, lfA_iff k (a + 1), Bool.or_eq_true, Bool.not_eq_true', decide_eq_false_iff_not]
    exact ⟨fun g b h1 h2 h3 => by
      by_cases z : b = a
      · rw [z] at h3 ⊢
        rcases g.1 with w | w
        · exact absurd h3 w
        · exact w
      · exact g.2 b (by omega) (by omega) h3, fun g => ⟨by
        by_cases z : 0 < lnt x t a
        · exact Or.inr (g a (by omega) (by omega) z)
        · exact Or.inl z, fun b h1 h2 h3 => g b (by omega) (by omega) h3⟩⟩
theorem m_rA {X : xM} {T : Nat → Int} {hh : Int} {x : Nat → Int} {t : Nat} (hk : LK x t) {V : Nat → Int} {m : Nat} {ac : Nat → Nat} (h : FW x t 10 V m ac) {Y : Nat → Int} (hY : ∀ j, 140 ≤ j → Y j = V j) : ∀ (k r n : Nat) (b : Bool), r + k = m → k < n → fX12_borrows_254 400 (t : Int) (dl x t : Int) (pp x t : Int) ((x 1545).toNat : Int) (((x 1545).toNat + mdn x t 10 : Nat) : Int) n (bi b) (((x 1545).toNat + r : Nat) : Int) (st X Y T hh) = fX12_borrows_295 400 (t : Int) (dl x t : Int) (pp x t : Int) ((x 1545).toNat : Int) (((x 1545).toNat + mdn x t 10 : Nat) : Int) (bi (b && rA Y ac k r)) (st X Y T hh)
  | _, _, 0, _, _, hn => absurd hn (Nat.not_lt_zero _)
  | 0, r, n + 1, b, hr, _ => by
    have h1 := h.1
    rw [fX12_borrows_254, show rA Y ac 0 r = true from rfl, Bool.and_true]
    by_cases z : mdn x t 10 ≤ r
    · rw [if_pos (by omega)]
    · rw [if_neg (by omega), if_pos (by omega)]
  | k + 1, r, n + 1, b, hr, hn => by
    have h1 := h.1
    have c1 := hk.1.1.2.1
    have c5 := hk.1.1.2.2.2.2.2.1
    have h2 := h.2.1 r (by omega)
    have ha := h2.2.2.1
    have e5 : Y (950 + ((x 1545).toNat + r)) = (ac r : Int) := by rw [hY _ (by omega), ← h2.1, show 950 + ((x 1545).toNat + r) = 950 + (x 1545).toNat + r by omega]
    have y41 : Y 1541 = x 1541 := by rw [hY _ (by omega), h.x (by omega)]
    have s1 := m_snd (M := st X Y T hh) ha (by rw [st_401]; omega) (by rw [st_401]; omega)
    rw [st_401] at s1
    rw [fX12_borrows_254, if_neg (by omega), if_neg (by omega), xix_t (by rw [w32_i (by omega) (by omega)]; omega) (by rw [w32_i (by omega) (by omega)]; omega), xr_400_0, st_401, show (w32 (950 + (((x 1545).toNat + r : Nat) : Int))).toNat = 950 + ((x 1545).toNat + r) by rw [w32_i (by omega) (by omega)]; omega, e5, w32_i (x := (ac r : Int)) (by omega) (by omega), s1, xb_l, xand_bi, w32_s (by omega), Nat.add_assoc, m_rA hk h hY k (r + 1) n (b && sSnd Y (ac r)) (by omega) (by omega), Bool.and_assoc]
    rfl
/-- but for rows that don't count w is x -/
def DR (x w : Nat → Int) : Prop := ∀ j, dr (x 1545).toNat j = false → w j = x j
theorem m_back {x : Nat → Int} {t : Nat} (hk : LK x t) (hq : CQ x) {V : Nat → Int} {m : Nat} {ac : Nat → Nat} (h : FW x t 10 V m ac) : ∀ (k r n : Nat) (U : Nat → Int), r + k = m → k < n → (∀ j, cel j = true → U j = wA x (fun j => SR x t ac m j - SR x t ac r j) j) → (∀ u, r ≤ u → u < m → U (950 + (x 1545).toNat + u) = V (950 + (x 1545).toNat + u) ∧ U (990 + (x 1545).toNat + u) = V (990 + (x 1545).toNat + u)) → (∀ j, cel j = false → dr (x 1545).toNat j = false → U j = x j) → ∃ U', DR x U' ∧ ∀ (X : xM) (T : Nat → Int) (hh z9 : Int), fX12_borrows_351 400 (dl x t : Int) (pp x t : Int) (((x 1545).toNat + mdn x t 10 : Nat) : Int) z9 n (((x 1545).toNat + r : Nat) : Int) (st X U T hh) = some (.inl z9, st X U' T hh)
  | _, _, 0, _, _, hn, _, _, _ => absurd hn (Nat.not_lt_zero _)
  | 0, r, n + 1, U, hr, _, h1, h2, h3 => by
    have hm := h.1
    refine ⟨U, fun j hj => ?_, fun X T hh z9 => ?_⟩
    case refine_2 =>
      rw [fX12_borrows_351]
      by_cases z : mdn x t 10 ≤ r
      · rw [if_pos (by omega)]; rfl
      · rw [if_neg (by omega), if_pos (by omega)]; rfl
    · cases q : cel j
      · exact h3 j q hj
      · have hrm : r = m := by omega
        rw [h1 j q, hrm, wA_c q, Int.sub_self, Int.add_zero, w64_id (hq j q)]
  | k + 1, r, n + 1, U, hr, hn, h1, h2, h3 => by
    have hm := h.1
    have c5 := hk.1.1.2.2.2.2.2.1
    have d1 := hk.f.2.2.2.1
    have p1 := hk.f.2.2.2.2.2.1
    have g := h.2.1 r (by omega)
    have lz := hk.lz g.2.2.2 g.2.2.1
    have kl := hk.ln g.2.2.1
    have kg := hk.g1 g.2.2.1
    have u := h2 r (Nat.le_refl r) (by omega)
    rw [g.1, g.2.1] at u
    have uq : CQ U := fun j hj => by rw [h1 j hj, wA_c hj]; exact w64_r _
    have hl : (x 1545).toNat + r < 20 := by omega
    have hP : U (184 + pp x t) = x (184 + pp x t) := h3 _ (cel_f (by omega)) (dr_f (by omega))
    have ml := fun (X : xM) (T : Nat → Int) (hh : Int) => m_lends (X := X) (T := T) (h := hh) uq hl d1 g.2.2.1 p1 lz.2.1 (y := -lnt x t (ac r)) hP
    obtain ⟨U', b2, b1⟩ := m_back hk hq h k (r + 1) n (wA (rw' U ((x 1545).toNat + r) (dl x t) (ac r) (pp x t) (-lnt x t (ac r)) (x (184 + pp x t))) (dL (dl x t) (pp x t) (x (184 + pp x t)) (ac r) (-lnt x t (ac r)))) (by omega) (by omega) (fun j hj => by
      have hj2 := cel_lt hj
      have e : SR x t ac (r + 1) j = SR x t ac r j + dL (dl x t) (pp x t) (x (184 + pp x t)) (ac r) (lnt x t (ac r)) j := rfl
      rw [wA_c hj, rw_n hl (by omega), h1 j hj, wA_c hj, wA_c hj, w64_add, dL_n, e]
      exact congrArg w64 (by omega)) (fun v v1 v2 => by
      have k2 := h2 v (by omega) v2
      rw [wA_n (by omega), wA_n (by omega), show 950 + (x 1545).toNat + v = 950 + ((x 1545).toNat + v) by omega, show 990 + (x 1545).toNat + v = 990 + ((x 1545).toNat + v) by omega, rw_o hl (by omega) (by omega) (by omega), rw_o hl (by omega) (by omega) (by omega), show 950 + ((x 1545).toNat + v) = 950 + (x 1545).toNat + v by omega, show 990 + ((x 1545).toNat + v) = 990 + (x 1545).toNat + v by omega]
      exact k2) (fun j hj hd => by
      unfold wA
      rw [hj, if_f, rw_d hl (by omega) hd]; exact h3 j hj hd)
    refine ⟨U', b2, fun X T hh z9 => ?_⟩
    have e5 : (w32 (950 + (((x 1545).toNat + r : Nat) : Int))).toNat = 950 + (x 1545).toNat + r := by rw [w32_i (by omega) (by omega)]; omega
    have e9 : (w32 (990 + (((x 1545).toNat + r : Nat) : Int))).toNat = 990 + (x 1545).toNat + r := by rw [w32_i (by omega) (by omega)]; omega
    rw [fX12_borrows_351, if_neg (by omega), if_neg (by omega), xix_t (by rw [w32_i (by omega) (by omega)]; omega) (by rw [w32_i (by omega) (by omega)]; omega), xix_t (by rw [w32_i (by omega) (by omega)]; omega) (by rw [w32_i (by omega) (by omega)]; omega), xr_400_0, st_401, e5, e9, u.1, u.2, w32_i (x := (ac r : Int)) (by omega) (by omega), w64_i (x := -lnt x t (ac r)) (by omega) (by omega), ml X T hh, xb_l, w32_s (by omega), Nat.add_assoc]
    exact b1 X T hh z9
