/-- what is known of a trade's parties -/
def TF (w : Nat → Int) (t : Nat) : Prop := t < 20 ∧ di w t < 40 ∧ ri w t < 40 ∧ dl w t < 10 ∧ rc w t < 10 ∧ pp w t < 4 ∧ w (730 + t) = (di w t : Int) ∧ w (750 + t) = (ri w t : Int) ∧ w (210 + di w t) = (dl w t : Int) ∧ w (210 + ri w t) = (rc w t : Int) ∧ w (330 + di w t) = (pp w t : Int) ∧ dl w t ≠ rc w t
theorem R.tN {M : xM} {w : Nat → Int} (h : R M w) {t : Nat} (ht : t < 20) : M (102 + t) 0 = (t : Int) := h.2.2.2.1 t ht
theorem R.tD {M : xM} {w : Nat → Int} (h : R M w) {t : Nat} (ht : (t : Int) < w 1543) (f : TF w t) : M (102 + t) 3 = (dl w t : Int) := by
  rw [(h.2.1 t f.1 ht).2.2.1]; exact f.2.2.2.2.2.2.2.2.1
theorem R.tR {M : xM} {w : Nat → Int} (h : R M w) {t : Nat} (ht : (t : Int) < w 1543) (f : TF w t) : M (102 + t) 4 = (rc w t : Int) := by
  rw [(h.2.1 t f.1 ht).2.2.2.1]; exact f.2.2.2.2.2.2.2.2.2.1
theorem R.tP {M : xM} {w : Nat → Int} (h : R M w) {t : Nat} (ht : (t : Int) < w 1543) (f : TF w t) : M (102 + t) 5 = (pp w t : Int) := by
  rw [(h.2.1 t f.1 ht).2.2.2.2.1]; exact f.2.2.2.2.2.2.2.2.2.2.1
theorem R.tY {M : xM} {w : Nat → Int} (h : R M w) {t : Nat} (ht : (t : Int) < w 1543) (f : TF w t) : M (102 + t) 9 = w (450 + di w t) := (h.2.1 t f.1 ht).2.2.2.2.2
/-- the most units that there can be -/
def kq (w : Nat → Int) : Nat → Int
  | 0 => 1000000
  | e + 1 => if w (1130 + e) = 1 then 3 * kq w e else kq w e
abbrev KQ (w : Nat → Int) : Int := kq w 10
def sm (f : Nat → Int) : Nat → Int
  | 0 => 0
  | n + 1 => sm f n + f n
def IA (w : Nat → Int) : Prop := ∀ a : Nat, a < 10 → (0 ≤ w (20 + a) ∧ w (20 + a) ≤ 2) ∧ B01 (w (10 + a)) ∧ B01 (w (60 + a)) ∧ B01 (w (70 + a)) ∧ (0 ≤ w (50 + a) ∧ w (50 + a) ≤ 1000000) ∧ ((a : Int) < w 1540 → -1 ≤ w a ∧ w a < w 1540) ∧ (w (10 + a) = 1 → (a : Int) < w 1540 ∧ 0 ≤ w a ∧ w (10 + (w a).toNat) = 0)
def IS (w : Nat → Int) : Prop := (∀ s : Nat, s < 4 → (0 ≤ w (180 + s) ∧ w (180 + s) ≤ 2) ∧ (0 ≤ w (184 + s) ∧ w (184 + s) ≤ 1000) ∧ (0 ≤ w (188 + s) ∧ w (188 + s) ≤ 500) ∧ ((s : Int) < w 1541 → 1 ≤ w (184 + s))) ∧ ∀ k : Nat, k < 9 → 0 ≤ w (196 + k) ∧ w (196 + k) ≤ 30
def IH (w : Nat → Int) : Prop := (∀ a s : Nat, a < 10 → s < 4 → 0 ≤ w (140 + 4 * a + s) ∧ w (140 + 4 * a + s) ≤ w (100 + 4 * a + s) ∧ (w 1540 ≤ (a : Int) → w (100 + 4 * a + s) = 0) ∧ (w 1541 ≤ (s : Int) → w (100 + 4 * a + s) = 0)) ∧ ∀ s : Nat, s < 4 → sm (fun a => w (100 + 4 * a + s)) 10 = w (192 + s) ∧ w (192 + s) ≤ KQ w
def II (w : Nat → Int) : Prop := ∀ i : Nat, i < 40 → ((i : Int) < w 1542 → (0 ≤ w (210 + i) ∧ w (210 + i) < w 1540) ∧ (0 ≤ w (250 + i) ∧ w (250 + i) < w 1540) ∧ w (210 + i) ≠ w (250 + i) ∧ (0 ≤ w (330 + i) ∧ w (330 + i) < w 1541) ∧ (1 ≤ w (370 + i) ∧ w (370 + i) ≤ 100000) ∧ (0 ≤ w (410 + i) ∧ w (410 + i) ≤ 100000000) ∧ (0 ≤ w (450 + i) ∧ w (450 + i) ≤ 2000) ∧ (0 ≤ w (490 + i) ∧ w (490 + i) ≤ 9) ∧ (0 ≤ w (530 + i) ∧ w (530 + i) ≤ 100000) ∧ (0 ≤ w (570 + i) ∧ w (570 + i) ≤ 3) ∧ (-1 ≤ w (650 + i) ∧ w (650 + i) < w 1543) ∧ (w (570 + i) = 1 → 0 ≤ w (650 + i) ∧ w (870 + (w (650 + i)).toNat) = 0 ∧ (di w (w (650 + i)).toNat = i ∨ ri w (w (650 + i)).toNat = i)) ∧ B01 (w (290 + i)) ∧ B01 (w (610 + i)) ∧ B01 (w (690 + i))) ∧ (w 1542 ≤ (i : Int) → w (570 + i) = 0 ∧ w (610 + i) = 0 ∧ w (690 + i) = 0)
def IT (w : Nat → Int) : Prop := ∀ t : Nat, t < 20 → ((t : Int) < w 1543 → (0 ≤ w (730 + t) ∧ w (730 + t) < w 1542) ∧ (0 ≤ w (750 + t) ∧ w (750 + t) < w 1542) ∧ w (210 + di w t) ≠ w (210 + ri w t) ∧ (0 ≤ w (770 + t) ∧ w (770 + t) ≤ KQ w) ∧ (w (870 + t) = 0 → 1 ≤ w (770 + t)) ∧ (0 ≤ w (790 + t) ∧ w (790 + t) ≤ 100000000) ∧ (0 ≤ w (810 + t) ∧ w (810 + t) ≤ 9) ∧ (0 ≤ w (830 + t) ∧ w (830 + t) ≤ KQ w) ∧ (0 ≤ w (850 + t) ∧ w (850 + t) ≤ w 1547) ∧ (0 ≤ w (870 + t) ∧ w (870 + t) ≤ 2) ∧ w (570 + di w t) = 1 + w (870 + t) ∧ w (570 + ri w t) = 1 + w (870 + t) ∧ w (650 + di w t) = (t : Int) ∧ w (650 + ri w t) = (t : Int)) ∧ (w 1543 ≤ (t : Int) → w (850 + t) = 0 ∧ w (870 + t) = 0)
def IK (w : Nat → Int) : Prop := ∀ k : Nat, k < 10 → (k : Int) < w 1544 → (0 ≤ w (890 + k) ∧ w (890 + k) < w 1543) ∧ (0 ≤ w (900 + k) ∧ w (900 + k) < w 1543) ∧ B01 (w (910 + k))
def IL (w : Nat → Int) : Prop := ∀ l : Nat, l < 20 → (l : Int) < w 1545 → (0 ≤ w (930 + l) ∧ w (930 + l) < w 1540) ∧ (0 ≤ w (950 + l) ∧ w (950 + l) < w 1540) ∧ (0 ≤ w (970 + l) ∧ w (970 + l) < w 1541) ∧ (-1 ≤ w (990 + l) ∧ w (990 + l) ≤ KQ w) ∧ (0 ≤ w (1010 + l) ∧ w (1010 + l) ≤ 60000000000000) ∧ B01 (w (1030 + l))
def IE (w : Nat → Int) : Prop := ∀ e : Nat, e < 10 → ((e : Int) < w 1546 → (0 ≤ w (1050 + e) ∧ w (1050 + e) ≤ 2) ∧ (0 ≤ w (1060 + e) ∧ w (1060 + e) < w 1541) ∧ (1 ≤ w (1070 + e) ∧ w (1070 + e) ≤ 1000) ∧ (w (1050 + e) = 1 → w (1070 + e) ≤ 3 ∧ 1 ≤ w (1080 + e) ∧ w (1080 + e) ≤ 3) ∧ (w (1050 + e) = 2 → 1 ≤ w (1080 + e) ∧ w (1080 + e) ≤ 10 ∧ 0 ≤ w (1090 + e) ∧ w (1090 + e) ≤ 100000) ∧ (0 ≤ w (1100 + e) ∧ w (1100 + e) ≤ w (1110 + e) ∧ w (1110 + e) ≤ 2000)) ∧ (w 1546 ≤ (e : Int) → w (1120 + e) = 0 ∧ w (1130 + e) = 0) ∧ B01 (w (1120 + e)) ∧ B01 (w (1130 + e)) ∧ (w (1120 + e) = 0 → (∀ a : Nat, a < 10 → w (1140 + 10 * e + a) = 0 ∧ w (1240 + 10 * e + a) = 0) ∧ ∀ t : Nat, t < 20 → w (1340 + 20 * e + t) = 0) ∧ (∀ a : Nat, a < 10 → 0 ≤ w (1240 + 10 * e + a) ∧ w (1240 + 10 * e + a) ≤ w (1140 + 10 * e + a) ∧ w (1140 + 10 * e + a) ≤ KQ w) ∧ ∀ t : Nat, t < 20 → 0 ≤ w (1340 + 20 * e + t) ∧ w (1340 + 20 * e + t) ≤ KQ w ∧ (w (1050 + e) = 1 → w (1340 + 20 * e + t) = 0)
/-- events: noted and paid by their days, those below i also today -/
def IY (i : Int) (w : Nat → Int) : Prop := ∀ e : Nat, e < 10 → (e : Int) < w 1546 → (w (1120 + e) = 1 ↔ (w (1100 + e) < w 1547 ∨ (w (1100 + e) = w 1547 ∧ (e : Int) < i))) ∧ (w (1130 + e) = 1 ↔ (w (1110 + e) < w 1547 ∨ (w (1110 + e) = w 1547 ∧ (e : Int) < i)))
def IM (n : Int) (w : Nat → Int) : Prop := ∀ a : Nat, a < 10 → (-n ≤ w (30 + a) ∧ w (30 + a) ≤ n) ∧ (-n ≤ w (40 + a) ∧ w (40 + a) ≤ n) ∧ (-9223372036854775808 ≤ w (80 + a) ∧ w (80 + a) ≤ 9223372036854775807)
def Inv0 (w : Nat → Int) : Prop := IC w ∧ IA w ∧ IS w ∧ IH w ∧ II w ∧ IT w ∧ IK w ∧ IL w ∧ IE w
def Inv (n : Int) (w : Nat → Int) : Prop := Inv0 w ∧ IY 0 w ∧ IM n w
theorem kq_pos (w : Nat → Int) : ∀ n, 1000000 ≤ kq w n
  | 0 => Int.le_refl _
  | n + 1 => by have := kq_pos w n; unfold kq; split <;> omega
theorem kq_le (w : Nat → Int) : ∀ n, kq w n ≤ 1000000 * (3 ^ n : Nat)
  | 0 => by rw [Nat.pow_zero]; exact Int.le_refl _
  | n + 1 => by
    have := kq_le w n; have := kq_pos w n
    have e : ((3 ^ (n + 1) : Nat) : Int) = 3 * ((3 ^ n : Nat) : Int) := by rw [Nat.pow_succ]; omega
    unfold kq; rw [e]; split <;> omega
theorem KQ_le (w : Nat → Int) : KQ w ≤ 59049000000 := by
  have := kq_le w 10
  have e : ((3 ^ 10 : Nat) : Int) = 59049 := by decide
  rw [e] at this; show kq w 10 ≤ _; omega
theorem KQ_ge (w : Nat → Int) : 1000000 ≤ KQ w := kq_pos w 10
theorem kq_eq {w w' : Nat → Int} (h : ∀ e : Nat, e < 10 → w' (1130 + e) = w (1130 + e)) : ∀ n, n ≤ 10 → kq w' n = kq w n
  | 0, _ => rfl
  | n + 1, hn => by unfold kq; rw [h n (by omega), kq_eq h n (by omega)]
theorem KQ_eq {w w' : Nat → Int} (h : ∀ e : Nat, e < 10 → w' (1130 + e) = w (1130 + e)) : KQ w' = KQ w := kq_eq h 10 (by omega)
theorem kq_up {w : Nat → Int} {e : Nat} (he : w (1130 + e) = 0) : ∀ n, kq (ups w (1130 + e) 1) n = if e < n then 3 * kq w n else kq w n
  | 0 => by rw [if_neg (by omega)]; rfl
  | n + 1 => by
    have ih := kq_up he n
    unfold kq
    by_cases q : n = e
    · subst q
      rw [ups_same, if_pos rfl, if_pos (by omega), ih, if_neg (by omega), he, if_neg (by omega)]
    · rw [ups_ne (by omega), ih]
      by_cases q2 : e < n
      · simp only [if_pos q2, if_pos (show e < n + 1 by omega)]; split <;> omega
      · simp only [if_neg q2, if_neg (show ¬ e < n + 1 by omega)]
theorem sm_eq {f g : Nat → Int} : ∀ n, (∀ a, a < n → f a = g a) → sm f n = sm g n
  | 0, _ => rfl
  | n + 1, h => by unfold sm; rw [sm_eq n (fun a ha => h a (by omega)), h n (by omega)]
theorem sm_up {f g : Nat → Int} {b : Nat} : ∀ n, b < n → (∀ a, a < n → a ≠ b → g a = f a) → sm g n = sm f n + (g b - f b)
  | 0, h, _ => absurd h (Nat.not_lt_zero _)
  | n + 1, h, hg => by
    unfold sm
    by_cases q : b = n
    · subst q; rw [sm_eq b (fun a ha => hg a (by omega) (by omega))]; omega
    · rw [sm_up n (by omega) (fun a ha => hg a (by omega)), hg n (by omega) (fun z => q z.symm)]; omega
theorem sm_nn {f : Nat → Int} : ∀ n, (∀ a, a < n → 0 ≤ f a) → 0 ≤ sm f n
  | 0, _ => Int.le_refl 0
  | n + 1, h => by have := sm_nn n (fun a ha => h a (by omega)); have := h n (by omega); unfold sm; omega
theorem sm_ge {f : Nat → Int} {b : Nat} : ∀ n, b < n → (∀ a, a < n → 0 ≤ f a) → f b ≤ sm f n
  | 0, h, _ => absurd h (Nat.not_lt_zero _)
  | n + 1, h, hg => by
    unfold sm
    by_cases q : b = n
    · subst q; have := sm_nn b (fun a ha => hg a (by omega)); omega
    · have := sm_ge n (show b < n by omega) (fun a ha => hg a (by omega)); have := hg n (by omega); omega
theorem IH.le {w : Nat → Int} (h : IH w) {a s : Nat} (ha : a < 10) (hs : s < 4) : 0 ≤ w (140 + 4 * a + s) ∧ w (140 + 4 * a + s) ≤ w (100 + 4 * a + s) ∧ w (100 + 4 * a + s) ≤ KQ w := by
  obtain ⟨h1, h2, h3, h4⟩ := h.1 a s ha hs
  have h5 := (h.2 s hs)
  have := sm_ge (f := fun a => w (100 + 4 * a + s)) (b := a) 10 ha (fun b hb => by have := h.1 b s hb hs; show 0 ≤ w _; omega)
  exact ⟨h1, h2, by omega⟩
theorem Inv0.hb {w : Nat → Int} (hS : IS w) (hH : IH w) {a : Nat} (ha : a < 10) : hb w a := fun s hs => by
  have h1 := hH.le ha hs
  have h2 := KQ_le w
  have h3 := (hS.1 s hs).2.1
  exact ⟨by omega, by omega, by omega, by omega, by omega, by omega⟩
theorem Inv0.tf {w : Nat → Int} (h : Inv0 w) {t : Nat} (ht : (t : Int) < w 1543) : TF w t := by
  obtain ⟨hC, -, -, -, hI, hT, -⟩ := h
  obtain ⟨c0, c1, c2, c3, -⟩ := hC
  have h20 : t < 20 := by omega
  obtain ⟨t1, t2, t3, -⟩ := (hT t h20).1 ht
  have e1 : w (730 + t) = (di w t : Int) := by unfold di; omega
  have e2 : w (750 + t) = (ri w t : Int) := by unfold ri; omega
  have k1 : di w t < 40 := by omega
  have k2 : ri w t < 40 := by omega
  obtain ⟨i1, i2, i3, i4, -⟩ := (hI (di w t) k1).1 (by omega)
  obtain ⟨j1, -⟩ := (hI (ri w t) k2).1 (by omega)
  have e3 : w (210 + di w t) = (dl w t : Int) := by unfold dl; omega
  have e4 : w (210 + ri w t) = (rc w t : Int) := by unfold rc; omega
  have e5 : w (330 + di w t) = (pp w t : Int) := by unfold pp; omega
  exact ⟨h20, k1, k2, by omega, by omega, by omega, e1, e2, e3, e4, e5, fun z => t3 (by rw [e3, e4, z])⟩
theorem Inv0.dlA {w : Nat → Int} (h : Inv0 w) {t : Nat} (ht : (t : Int) < w 1543) : (dl w t : Int) < w 1540 ∧ (rc w t : Int) < w 1540 ∧ (pp w t : Int) < w 1541 := by
  have f := h.tf ht
  obtain ⟨hC, -, -, -, hI, hT, -⟩ := h
  obtain ⟨f0, f1, f2, -, -, -, f6, f7, f8, f9, f10, -⟩ := f
  obtain ⟨t1, t2, t3, -⟩ := (hT t f0).1 ht
  obtain ⟨i1, i2, i3, i4, -⟩ := (hI (di w t) f1).1 (by omega)
  obtain ⟨j1, -⟩ := (hI (ri w t) f2).1 (by omega)
  omega
/-- the moves of an account, up to a page -/
def mvs (M : xM) (a s : Nat) : Nat → Int := sm (fun p => M (15 + 4 * a) (4 * p + s))
def np (w : Nat → Int) : Nat → Nat
  | 0 => 0
  | e + 1 => np w e + (if w (1120 + e) = 1 then 1 else 0)
/-- the pages of moves -/
def MV (M : xM) (w : Nat → Int) : Prop := M 3 17 = (np w 10 : Int) ∧ (∀ a s : Nat, a < 10 → s < 4 → w64 (mvs M a s 11) = w (100 + 4 * a + s) ∧ ∀ p, np w 10 < p → p < 11 → M (15 + 4 * a) (4 * p + s) = 0) ∧ ∀ e : Nat, e < 10 → w (1120 + e) = 1 → ∃ q : Nat, M (155 + 4 * e) 9 = (q : Int) ∧ q < np w 10 ∧ ∀ a : Nat, a < 10 → w64 (mvs M a (w (1060 + e)).toNat (q + 1)) = w (1140 + 10 * e + a)
theorem np_le (w : Nat → Int) : ∀ n, np w n ≤ n
  | 0 => Nat.le_refl 0
  | n + 1 => by have := np_le w n; unfold np; split <;> omega
theorem np_lt {w : Nat → Int} {e : Nat} (he : w (1120 + e) ≠ 1) : ∀ n, e < n → np w n < n
  | 0, h => absurd h (Nat.not_lt_zero _)
  | n + 1, h => by
    unfold np
    by_cases q : e = n
    · subst q; rw [if_neg he]; have := np_le w e; omega
    · have := np_lt he n (by omega); split <;> omega
theorem np_eq {w w' : Nat → Int} (h : ∀ e : Nat, e < 10 → w' (1120 + e) = w (1120 + e)) : ∀ n, n ≤ 10 → np w' n = np w n
  | 0, _ => rfl
  | n + 1, hn => by unfold np; rw [h n (by omega), np_eq h n (by omega)]
theorem np_up {w : Nat → Int} {e : Nat} (he : w (1120 + e) = 0) : ∀ n, np (ups w (1120 + e) 1) n = if e < n then np w n + 1 else np w n
  | 0 => by rw [if_neg (by omega)]; rfl
  | n + 1 => by
    have ih := np_up he n
    unfold np
    by_cases q : n = e
    · subst q
      rw [ups_same, if_pos rfl, if_pos (by omega), ih, if_neg (by omega), he, if_neg (by omega)]
    · rw [ups_ne (by omega), ih]
      by_cases q2 : e < n
      · simp only [if_pos q2, if_pos (show e < n + 1 by omega)]; split <;> omega
      · simp only [if_neg q2, if_neg (show ¬ e < n + 1 by omega)]
theorem MV.fr {M M' : xM} {w w' : Nat → Int} (h : MV M w) (h1 : M' 3 17 = M 3 17) (h2 : ∀ a : Nat, a < 10 → M' (15 + 4 * a) = M (15 + 4 * a)) (h3 : ∀ e : Nat, e < 10 → M' (155 + 4 * e) 9 = M (155 + 4 * e) 9) (k1 : ∀ j, 100 ≤ j → j < 140 → w' j = w j) (k2 : ∀ e : Nat, e < 10 → w' (1120 + e) = w (1120 + e)) (k3 : ∀ e : Nat, e < 10 → w (1120 + e) = 1 → w' (1060 + e) = w (1060 + e)) (k4 : ∀ j, 1140 ≤ j → j < 1240 → w' j = w j) : MV M' w' := by
  have e : np w' 10 = np w 10 := np_eq k2 10 (by omega)
  have em : ∀ a s, a < 10 → mvs M' a s = mvs M a s := fun a s ha => by unfold mvs; rw [h2 a ha]
  obtain ⟨a1, a2, a3⟩ := h
  refine ⟨by rw [h1, e]; exact a1, fun a s ha hs => ?_, fun v hv hn => ?_⟩
  · rw [em a s ha, e, k1 _ (by omega) (by omega), h2 a ha]; exact a2 a s ha hs
  · rw [k2 v hv] at hn
    obtain ⟨q, q1, q2, q3⟩ := a3 v hv hn
    refine ⟨q, by rw [h3 v hv]; exact q1, by rw [e]; exact q2, fun a ha => ?_⟩
    rw [em a _ ha, k3 v hv hn, k4 _ (by omega) (by omega)]; exact q3 a ha
