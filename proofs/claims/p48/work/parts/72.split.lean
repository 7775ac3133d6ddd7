-- a split: holdings
def sSp (A B x : Int) : Int := Int.tdiv (w64 (x * A)) B
theorem sSp_r {A B : Int} (hB : 1 ≤ B) (x : Int) : R64 (sSp A B x) := by
  have r := w64_r (x * A)
  unfold sSp
  generalize w64 (x * A) = y at r
  by_cases h : 0 ≤ y
  · rw [Int.tdiv_eq_ediv_of_nonneg h]
    have := Int.ediv_nonneg h (by omega : 0 ≤ B)
    have := Int.ediv_le_self B h
    omega
  · have e : y.tdiv B = -((-y).tdiv B) := by rw [Int.neg_tdiv, Int.neg_neg]
    have h2 : 0 ≤ -y := by omega
    rw [e, Int.tdiv_eq_ediv_of_nonneg h2]
    have := Int.ediv_nonneg h2 (by omega : 0 ≤ B)
    have := Int.ediv_le_self B h2
    omega
/-- an account's root: itself, or where it is pooled -/
def ro (w : Nat → Int) (a : Nat) : Nat := if w (10 + a) = 1 then (w a).toNat else a
def sUn (w : Nat → Int) (c k : Nat) : Bool := decide (w (10 + k) = 1) && decide (w k = (c : Int))
def sAl (w : Nat → Int) (s c : Nat) : Nat → Nat → Int → Int
  | 0, _, x => x
  | k + 1, i, x => sAl w s c k (i + 1) (if sUn w c i then w64 (x + w (100 + 4 * i + s)) else x)
def sGi (A B : Int) (w : Nat → Int) (s c : Nat) : Nat → Nat → Int → Int
  | 0, _, x => x
  | k + 1, i, x => sGi A B w s c k (i + 1) (if sUn w c i then w64 (x + sSp A B (w (100 + 4 * i + s))) else x)
theorem sGi_s {A B : Int} {w : Nat → Int} {s c k i : Nat} {x : Int} : sGi A B w s c (k + 1) i x = sGi A B w s c k (i + 1) (if sUn w c i then w64 (x + sSp A B (w (100 + 4 * i + s))) else x) := rfl
def sTo (w : Nat → Int) (s nA c : Nat) : Int := sAl w s c nA 0 (w (100 + 4 * c + s))
def sNh (A B : Int) (w : Nat → Int) (s nA a : Nat) : Int := if w (10 + a) = 1 then sSp A B (w (100 + 4 * a + s)) else w64 (sSp A B (sTo w s nA a) - sGi A B w s a nA 0 0)
theorem sNh_r {A B : Int} (hB : 1 ≤ B) (w : Nat → Int) (s nA a : Nat) : R64 (sNh A B w s nA a) := by
  unfold sNh; split
  · exact sSp_r hB _
  · exact w64_r _
def wD (A B : Int) (w : Nat → Int) (s nA : Nat) (DH DB : Nat → Bool) (o : Int) : Nat → Int := fun j =>
  if 100 ≤ j ∧ j < 140 ∧ (j - 100) % 4 = s ∧ DH ((j - 100) / 4) = true then sNh A B w s nA ((j - 100) / 4)
  else if 140 ≤ j ∧ j < 180 ∧ (j - 140) % 4 = s ∧ DB ((j - 140) / 4) = true then sSp A B (w j)
  else if j = 192 + s then o else w j
theorem wD_ne {A B : Int} {w : Nat → Int} {s nA : Nat} {DH DB : Nat → Bool} {o : Int} {j : Nat} (h : j < 100 ∨ (180 ≤ j ∧ j ≠ 192 + s)) : wD A B w s nA DH DB o j = w j := by
  unfold wD; rw [if_neg (by omega), if_neg (by omega), if_neg (by omega)]
theorem wD_h {A B : Int} {w : Nat → Int} {s nA : Nat} {DH DB : Nat → Bool} {o : Int} {a t : Nat} (ha : a < 10) (hs : s < 4) (ht : t < 4) : wD A B w s nA DH DB o (100 + 4 * a + t) = if t = s ∧ DH a = true then sNh A B w s nA a else w (100 + 4 * a + t) := by
  unfold wD
  rw [show (100 + 4 * a + t - 100) / 4 = a by omega, show (100 + 4 * a + t - 100) % 4 = t by omega]
  by_cases z : t = s ∧ DH a = true
  · rw [if_pos ⟨by omega, by omega, z⟩, if_pos z]
  · rw [if_neg (fun y => z y.2.2), if_neg (by omega), if_neg (by omega), if_neg z]
theorem wD_b {A B : Int} {w : Nat → Int} {s nA : Nat} {DH DB : Nat → Bool} {o : Int} {a t : Nat} (ha : a < 10) (hs : s < 4) (ht : t < 4) : wD A B w s nA DH DB o (140 + 4 * a + t) = if t = s ∧ DB a = true then sSp A B (w (140 + 4 * a + t)) else w (140 + 4 * a + t) := by
  unfold wD
  rw [if_neg (by omega), show (140 + 4 * a + t - 140) / 4 = a by omega, show (140 + 4 * a + t - 140) % 4 = t by omega]
  by_cases z : t = s ∧ DB a = true
  · rw [if_pos ⟨by omega, by omega, z⟩, if_pos z]
  · rw [if_neg (fun y => z y.2.2), if_neg (by omega), if_neg z]
theorem wD_o {A B : Int} {w : Nat → Int} {s nA : Nat} {DH DB : Nat → Bool} {o : Int} (hs : s < 4) : wD A B w s nA DH DB o (192 + s) = o := by
  unfold wD; rw [if_neg (by omega), if_neg (by omega), if_pos rfl]
theorem wD_uh {A B : Int} {w : Nat → Int} {s nA : Nat} {DH DB : Nat → Bool} {o : Int} {a : Nat} (ha : a < 10) (hs : s < 4) : ups (wD A B w s nA DH DB o) (100 + 4 * a + s) (sNh A B w s nA a) = wD A B w s nA (gs DH a) DB o := by
  funext j
  unfold ups
  by_cases q : j = 100 + 4 * a + s
  · subst q
    rw [if_pos rfl, wD_h ha hs hs, if_pos ⟨rfl, by unfold gs; rw [decide_eq_true rfl, Bool.or_true]⟩]
  · rw [if_neg q]
    unfold wD
    have e : (100 ≤ j ∧ j < 140 ∧ (j - 100) % 4 = s ∧ gs DH a ((j - 100) / 4) = true) ↔ (100 ≤ j ∧ j < 140 ∧ (j - 100) % 4 = s ∧ DH ((j - 100) / 4) = true) := by
      unfold gs
      constructor
      · rintro ⟨h1, h2, h3, h4⟩
        rw [decide_eq_false (by omega), Bool.or_false] at h4
        exact ⟨h1, h2, h3, h4⟩
      · rintro ⟨h1, h2, h3, h4⟩
        exact ⟨h1, h2, h3, by rw [h4]; rfl⟩
    by_cases z : 100 ≤ j ∧ j < 140 ∧ (j - 100) % 4 = s ∧ DH ((j - 100) / 4) = true
    · rw [if_pos z, if_pos (e.2 z)]
    · rw [if_neg z, if_neg (fun y => z (e.1 y))]
theorem wD_ub {A B : Int} {w : Nat → Int} {s nA : Nat} {DH DB : Nat → Bool} {o : Int} {a : Nat} (ha : a < 10) (hs : s < 4) : ups (wD A B w s nA DH DB o) (140 + 4 * a + s) (sSp A B (w (140 + 4 * a + s))) = wD A B w s nA DH (gs DB a) o := by
  funext j
  unfold ups
  by_cases q : j = 140 + 4 * a + s
  · subst q
    rw [if_pos rfl, wD_b ha hs hs, if_pos ⟨rfl, by unfold gs; rw [decide_eq_true rfl, Bool.or_true]⟩]
  · rw [if_neg q]
    unfold wD
    have e : (140 ≤ j ∧ j < 180 ∧ (j - 140) % 4 = s ∧ gs DB a ((j - 140) / 4) = true) ↔ (140 ≤ j ∧ j < 180 ∧ (j - 140) % 4 = s ∧ DB ((j - 140) / 4) = true) := by
      unfold gs
      constructor
      · rintro ⟨h1, h2, h3, h4⟩
        rw [decide_eq_false (by omega), Bool.or_false] at h4
        exact ⟨h1, h2, h3, h4⟩
      · rintro ⟨h1, h2, h3, h4⟩
        exact ⟨h1, h2, h3, by rw [h4]; rfl⟩
    by_cases y0 : 100 ≤ j ∧ j < 140 ∧ (j - 100) % 4 = s ∧ DH ((j - 100) / 4) = true
    · rw [if_pos y0, if_pos y0]
    · rw [if_neg y0, if_neg y0]
      by_cases z : 140 ≤ j ∧ j < 180 ∧ (j - 140) % 4 = s ∧ DB ((j - 140) / 4) = true
      · rw [if_pos z, if_pos (e.2 z)]
      · rw [if_neg z, if_neg (fun y => z (e.1 y))]
theorem wD_uo {A B : Int} {w : Nat → Int} {s nA : Nat} {DH DB : Nat → Bool} {o o' : Int} (hs : s < 4) : ups (wD A B w s nA DH DB o) (192 + s) o' = wD A B w s nA DH DB o' := by
  funext j
  unfold ups
  by_cases q : j = 192 + s
  · subst q; rw [if_pos rfl, wD_o hs]
  · rw [if_neg q]
    unfold wD
    rw [if_neg (c := j = 192 + s) q, if_neg (c := j = 192 + s) q]
def dS (w : Nat → Int) (c i : Nat) : Nat → Bool := fun a => decide (a < 10) && (decide (ro w a < c) || (decide (ro w a = c) && (decide (w (10 + a) = 1) && decide (a < i))))
def dBl (c : Nat) : Nat → Bool := fun a => decide (a < 10) && decide (a < c)
/-- what is known of the pools -/
def PK (w : Nat → Int) (nA : Nat) : Prop := nA ≤ 10 ∧ ∀ a : Nat, a < 10 → B01 (w (10 + a)) ∧ (w (10 + a) = 1 → a < nA ∧ 0 ≤ w a ∧ w a < (nA : Int) ∧ w (10 + (w a).toNat) = 0)
theorem PK.rf {w : Nat → Int} {nA : Nat} (h : PK w nA) {a : Nat} (ha : a < 10) : w (10 + ro w a) = 0 ∧ (ro w a < nA ↔ a < nA) ∧ (w (10 + a) = 1 → w a = (ro w a : Int)) ∧ ro w a < 10 := by
  have h0 := h.1
  obtain ⟨h1, h2⟩ := h.2 a ha
  unfold ro
  by_cases z : w (10 + a) = 1
  · obtain ⟨k1, k2, k3, k4⟩ := h2 z
    rw [if_pos z]
    exact ⟨k4, by omega, fun _ => by omega, by omega⟩
  · rw [if_neg z]
    rcases h1 with h1 | h1
    · exact ⟨h1, by omega, fun y => absurd y z, ha⟩
    · exact absurd h1 z
theorem PK.un {w : Nat → Int} {nA : Nat} (h : PK w nA) {c k : Nat} (hk : k < 10) : sUn w c k = (decide (ro w k = c) && decide (w (10 + k) = 1)) := by
  have r := h.rf hk
  unfold sUn
  by_cases z : w (10 + k) = 1
  · rw [decide_eq_true z, Bool.true_and, Bool.and_true, r.2.2.1 z]
    by_cases y : ro w k = c
    · rw [decide_eq_true y, decide_eq_true (by omega)]
    · rw [decide_eq_false y, decide_eq_false (by omega)]
  · rw [decide_eq_false z, Bool.false_and, Bool.and_false]
theorem dS_s {w : Nat → Int} {nA : Nat} (h : PK w nA) {c i : Nat} (hi : i < 10) : dS w c (i + 1) = if sUn w c i then gs (dS w c i) i else dS w c i := by
  rw [h.un hi]
  funext a
  by_cases q : a = i
  · subst q
    unfold dS gs
    by_cases y : ro w a = c
    · by_cases z : w (10 + a) = 1
      · simp [y, z, hi]
      · simp [y, z, hi]
    · simp [y, hi]
  · have e : ∀ i2, (i2 = i ∨ i2 = i + 1) → (decide (a < i2) = decide (a < i)) := fun i2 h2 => by
      by_cases y : a < i
      · rw [decide_eq_true y, decide_eq_true (by omega)]
      · rw [decide_eq_false y, decide_eq_false (by omega)]
    have e1 : dS w c (i + 1) a = dS w c i a := by unfold dS; rw [e (i + 1) (Or.inr rfl)]
    rw [e1]
    split
    · unfold gs; rw [decide_eq_false q, Bool.or_false]
    · rfl
theorem dS_n {w : Nat → Int} {nA : Nat} (h : PK w nA) {c : Nat} (hc : c < nA) : (w (10 + c) = 0 → gs (dS w c nA) c = dS w (c + 1) 0) ∧ (w (10 + c) = 1 → dS w c 0 = dS w (c + 1) 0) := by
  have h0 := h.1
  refine ⟨fun z => ?_, fun z => ?_⟩
  · funext a
    unfold gs dS
    by_cases ha : a < 10
    · have r := h.rf ha
      rw [decide_eq_true ha, Bool.true_and, Bool.true_and, decide_eq_false (show ¬ a < 0 by omega), Bool.and_false, Bool.and_false, Bool.or_false]
      by_cases q : a = c
      · subst q
        have : ro w a = a := by unfold ro; rw [if_neg (by omega)]
        rw [this, decide_eq_true (show a < a + 1 by omega), decide_eq_true (show a = a from rfl), Bool.or_true]
      · rw [decide_eq_false q, Bool.or_false]
        by_cases y : ro w a = c
        · have hp : w (10 + a) = 1 := by
            rcases (h.2 a ha).1 with p | p
            · have : ro w a = a := by unfold ro; rw [if_neg (by omega)]
              omega
            · exact p
          have := ((h.2 a ha).2 hp).1
          rw [decide_eq_true y, decide_eq_true hp, decide_eq_true this, decide_eq_true (show ro w a < c + 1 by omega), Bool.true_and, Bool.true_and, Bool.or_true]
        · rw [decide_eq_false y, Bool.false_and, Bool.or_false]
          by_cases x : ro w a < c
          · rw [decide_eq_true x, decide_eq_true (by omega)]
          · rw [decide_eq_false x, decide_eq_false (by omega)]
    · rw [decide_eq_false ha, Bool.false_and, Bool.false_and, decide_eq_false (by omega)]; rfl
  · funext a
    unfold dS
    by_cases ha : a < 10
    · have r := h.rf ha
      have y : ro w a ≠ c := fun y => by rw [y, z] at r; exact absurd r.1 (by decide)
      rw [decide_eq_false (show ¬ a < 0 by omega)]
      simp only [Bool.and_false, Bool.or_false]
      have ee : decide (ro w a < c) = decide (ro w a < c + 1) := by
        by_cases x : ro w a < c
        · rw [decide_eq_true x, decide_eq_true (show ro w a < c + 1 by omega)]
        · rw [decide_eq_false x, decide_eq_false (show ¬ ro w a < c + 1 by omega)]
      rw [ee]
    · rw [decide_eq_false ha, Bool.false_and, Bool.false_and]
theorem dS_e {w : Nat → Int} {nA : Nat} (h : PK w nA) : dS w nA 0 = dBl nA := by
  funext a
  unfold dS dBl
  by_cases ha : a < 10
  · have r := h.rf ha
    rw [decide_eq_false (show ¬ a < 0 by omega), Bool.and_false, Bool.and_false, Bool.or_false]
    by_cases x : a < nA
    · rw [decide_eq_true x, decide_eq_true (r.2.1.2 x)]
    · rw [decide_eq_false x, decide_eq_false (fun y => x (r.2.1.1 y))]
  · rw [decide_eq_false ha, Bool.false_and, Bool.false_and]
theorem dS_z {w : Nat → Int} (a : Nat) : dS w 0 0 a = false := by
  unfold dS
  rw [decide_eq_false (show ¬ ro w a < 0 by omega), decide_eq_false (show ¬ a < 0 by omega), Bool.and_false, Bool.and_false, Bool.or_false, Bool.and_false]
theorem wD_0 {A B : Int} {w : Nat → Int} {s nA : Nat} {o : Int} (DH DB : Nat → Bool) (h1 : ∀ a, DH a = false) (h2 : ∀ a, DB a = false) (ho : w (192 + s) = o) : wD A B w s nA DH DB o = w := by
  funext j
  unfold wD
  rw [if_neg (fun z => by rw [h1] at z; exact absurd z.2.2.2 (by decide)), if_neg (fun z => by rw [h2] at z; exact absurd z.2.2.2 (by decide))]
  by_cases q : j = 192 + s
  · rw [if_pos q, q, ho]
  · rw [if_neg q]
/-- the facts of a split that the loops use -/
def SF (w : Nat → Int) (e s nA : Nat) (A B : Int) : Prop := e < 10 ∧ s < 4 ∧ PK w nA ∧ w 1540 = (nA : Int) ∧ w (1060 + e) = (s : Int) ∧ w (1070 + e) = A ∧ w (1080 + e) = B ∧ 1 ≤ B ∧ (∀ x : Nat, x < 10 → w (1120 + x) = 1 → (w (1060 + x)).toNat < 4) ∧ ∀ a : Nat, a < 10 → R64 (w (100 + 4 * a + s))
theorem c_spl {M : xM} {w : Nat → Int} (hR : R M w) {e : Nat} (he : e < 10) (hB : 1 ≤ w (1080 + e)) (x : Int) : fX4_splitOf (155 + 4 * e) x M = some (.inl (sSp (w (1070 + e)) (w (1080 + e)) x), M) := by
  unfold fX4_splitOf
  rw [hR.eb he, hR.ea he, if_neg (by omega), xnz_t (by omega)]; rfl
theorem c_spa {M : xM} {w w1 T : Nat → Int} {e s nA : Nat} {A B : Int} (hF : SF w e s nA A B) {D : Nat → Bool} {o : Int} (hw : w1 = wD A B w s nA D D o) (hS : SS M w1 T) {x : Nat} (hx : x < 10) (hd : D x = false) {v : Int} (hv : v = sNh A B w s nA x) : ∃ M', fX3_splitAccount 399 (155 + 4 * e) (12 + 4 * x) v M = some (.inl 0, M') ∧ SS M' (wD A B w s nA (gs D x) (gs D x) o) T ∧ fz M M' := by
  obtain ⟨he, hs, hP, h40, hes, hA, hB, hB1, h4, hrr⟩ := hF
  subst hw
  have hnp := np_le w 10
  have en : np (wD A B w s nA D D o) 10 = np w 10 := np_eq (fun x hx => wD_ne (by omega)) 10 (by omega)
  obtain ⟨hR, hV, hT⟩ := hS
  have e1 : wD A B w s nA D D o (100 + 4 * x + s) = w (100 + 4 * x + s) := by rw [wD_h hx hs hs, if_neg (by rw [hd]; exact fun z => absurd z.2 (by decide))]
  have e2 : wD A B w s nA D D o (140 + 4 * x + s) = w (140 + 4 * x + s) := by rw [wD_b hx hs hs, if_neg (by rw [hd]; exact fun z => absurd z.2 (by decide))]
  have ev : w64 (wD A B w s nA D D o (100 + 4 * x + s) + w64 (v - w (100 + 4 * x + s))) = sNh A B w s nA x := by
    have r := sNh_r hB1 w s nA x (A := A)
    rw [e1, w64_add', show w (100 + 4 * x + s) + (v - w (100 + 4 * x + s)) = v by omega, hv, w64_id r]
  have esW : wD A B w s nA D D o (1060 + e) = (s : Int) := by rw [wD_ne (by omega)]; exact hes
  have r1 := (hR.held_up hx hs (v := sNh A B w s nA x)).cls1 (frc_mov x hx (4 * np w 10 + s) (by omega)) (v := w64 (M (15 + 4 * x) (4 * np w 10 + s) + w64 (v - w (100 + 4 * x + s))))
  have v1 : MV (xup (xup M (13 + 4 * x) s (sNh A B w s nA x)) (15 + 4 * x) (4 * np w 10 + s) (w64 (M (15 + 4 * x) (4 * np w 10 + s) + w64 (v - w (100 + 4 * x + s))))) (ups (wD A B w s nA D D o) (100 + 4 * x + s) (sNh A B w s nA x)) := by
    have m := (hV.cell (c := 13 + 4 * x) (k := s) (v := sNh A B w s nA x) (by omega) (by omega) (by omega)).move hx hs (c := w64 (v - w (100 + 4 * x + s))) (fun y hy hn => by
      rw [wD_ne (by omega)] at hn
      rw [wD_ne (by omega)]; exact h4 y hy hn)
    rw [en, xup_c (by omega), ev] at m; exact m
  rw [wD_uh hx hs] at r1 v1
  have r2 := r1.blk_up hx hs (v := sSp A B (w (140 + 4 * x + s)))
  have v2 := v1.up (c := 14 + 4 * x) (k := s) (v := sSp A B (w (140 + 4 * x + s))) (j := 140 + 4 * x + s) (u := sSp A B (w (140 + 4 * x + s))) (by omega) (by omega) (by omega) (by omega) (by omega) (by omega) (by omega)
  rw [wD_ub hx hs] at r2 v2
  refine ⟨_, ?_, ⟨r2, v2, ((hT.c (by omega)).c (by omega)).c (by omega)⟩, (((fz.refl M).x (by omega)).x (by omega)).x (by omega)⟩
  unfold fX3_splitAccount
  rw [hR.esec he, esW, c_held hR hx hs, xb_l, e1, xr_399_0, hV.1, en, c_move hx hs (by omega), xb_l, hR.held hx hs, e1]
  have ev2 : w64 (w (100 + 4 * x + s) + w64 (v - w (100 + 4 * x + s))) = sNh A B w s nA x := by rw [← e1]; rw [e1] at ev ⊢; exact ev
  rw [ev2]
  have eS : (xup (xup M (13 + 4 * x) s (sNh A B w s nA x)) (15 + 4 * x) (4 * np w 10 + s) (w64 (M (15 + 4 * x) (4 * np w 10 + s) + w64 (v - w (100 + 4 * x + s))))) (155 + 4 * e) 1 = (s : Int) := by rw [xup_c (by omega), xup_c (by omega), hR.esec he, esW]
  rw [eS, c_blk r1 hx hs, xb_l, wD_b hx hs hs, if_neg (by rw [hd]; exact fun z => absurd z.2 (by decide)), c_spl r1 he (by rw [wD_ne (by omega), hB]; exact hB1), xb_l, wD_ne (j := 1070 + e) (by omega), wD_ne (j := 1080 + e) (by omega), hA, hB, c_setb hx hs, xb_l]; rfl
theorem dS_f {w : Nat → Int} {nA c i : Nat} (h : PK w nA) (hi : i < 10) (hu : sUn w c i = true) : dS w c i i = false := by
  rw [h.un hi] at hu
  have r : ro w i = c := of_decide_eq_true (and_tt hu).1
  unfold dS
  rw [decide_eq_false (show ¬ ro w i < c by omega), decide_eq_false (show ¬ i < i by omega), Bool.and_false, Bool.and_false, Bool.or_false, Bool.and_false]
theorem dS_g {w : Nat → Int} {c i : Nat} (hz : w (10 + c) = 0) : dS w c i c = false := by
  have r : ro w c = c := by unfold ro; rw [if_neg (by omega)]
  unfold dS
  rw [r, decide_eq_false (show ¬ c < c by omega), decide_eq_false (show ¬ w (10 + c) = 1 by omega), Bool.false_and, Bool.and_false, Bool.or_false, Bool.and_false]
theorem c_spi {w T : Nat → Int} {e s nA : Nat} {A B : Int} (hF : SF w e s nA A B) {c : Nat} (hc : c < nA) (hz : w (10 + c) = 0) (o : Int) : ∀ (k i n : Nat) (M : xM) (x y : Int), i + k = nA → k < n → SS M (wD A B w s nA (dS w c i) (dS w c i) o) T → sAl w s c k i x = sTo w s nA c → sGi A B w s c k i y = sGi A B w s c nA 0 0 → ∃ M', fX3_splitWithPool_25 399 (155 + 4 * e) (c : Int) n x y (i : Int) M = some (.inl (sSp A B (sTo w s nA c)), M') ∧ SS M' (wD A B w s nA (dS w (c + 1) 0) (dS w (c + 1) 0) o) T ∧ fz M M'
  | _, _, 0, _, _, _, _, hn, _, _, _ => absurd hn (Nat.not_lt_zero _)
  | 0, i, n + 1, M, x, y, hi, _, hS, hx, hy => by
    obtain ⟨he, hs, hP, h40, hes, hA, hB, hB1, h4, hrr⟩ := id hF
    have h0 := hP.1
    have ein : i = nA := by omega
    subst ein
    have hx' : x = sTo w s i c := hx
    have hy' : y = sGi A B w s c i 0 0 := hy
    obtain ⟨M1, a1, a2, a3⟩ := c_spa hF (D := dS w c i) rfl hS (x := c) (by omega) (dS_g hz) (v := w64 (sSp A B (sTo w s i c) - y)) (by unfold sNh; rw [if_neg (by omega), hy'])
    rw [(dS_n hP hc).1 hz] at a2
    refine ⟨M1, ?_, a2, a3⟩
    rw [fX3_splitWithPool_25, xr_399_0, if_pos (by rw [hS.1.nA, wD_ne (by omega)]; omega), c_spl hS.1 he (by rw [wD_ne (by omega), hB]; exact hB1), xb_l, wD_ne (j := 1070 + e) (by omega), wD_ne (j := 1080 + e) (by omega), hA, hB, c_acc (by omega), xb_l, Int.toNat_natCast, hx', a1]; rfl
  | k + 1, i, n + 1, M, x, y, hi, hn, hS, hx, hy => by
    obtain ⟨he, hs, hP, h40, hes, hA, hB, hB1, h4, hrr⟩ := id hF
    have h0 := hP.1
    have hi4 : i < 10 := by omega
    have hb := (hP.2 i hi4).1
    have eDS := dS_s hP (c := c) hi4
    unfold sAl at hx
    rw [sGi_s] at hy
    rw [fX3_splitWithPool_25, xr_399_0, if_neg (by rw [hS.1.nA, wD_ne (by omega)]; omega), c_acc (by omega), xb_l, Int.toNat_natCast, hS.1.pool hi4, wD_ne (j := 10 + i) (by omega), hb.nz, hS.1.cust hi4 (by rw [wD_ne (by omega)]; omega), wD_ne (j := i) (by omega)]
    unfold fX3_splitWithPool_107
    rw [w32_s (by omega)]
    by_cases q1 : w (10 + i) = 1
    · by_cases q2 : w i = (c : Int)
      · have hu : sUn w c i = true := by unfold sUn; rw [decide_eq_true q1, decide_eq_true q2]; rfl
        rw [hu, if_t] at eDS hx hy
        have hd := dS_f hP hi4 hu
        have eh : wD A B w s nA (dS w c i) (dS w c i) o (100 + 4 * i + s) = w (100 + 4 * i + s) := by rw [wD_h hi4 hs hs, if_neg (by rw [hd]; exact fun z => absurd z.2 (by decide))]
        have sp1 : fX4_splitOf (155 + 4 * e) (w (100 + 4 * i + s)) M = some (.inl (sSp A B (w (100 + 4 * i + s))), M) := by
          rw [c_spl hS.1 he (by rw [wD_ne (by omega), hB]; exact hB1), wD_ne (j := 1070 + e) (by omega), wD_ne (j := 1080 + e) (by omega), hA, hB]
        obtain ⟨M1, a1, a2, a3⟩ := c_spa hF rfl hS (x := i) hi4 hd (v := sSp A B (w (100 + 4 * i + s))) (by unfold sNh; rw [if_pos q1])
        rw [← eDS] at a2
        obtain ⟨M2, b1, b2, b3⟩ := c_spi hF hc hz o k (i + 1) n M1 _ _ (by omega) (by omega) a2 hx hy
        refine ⟨M2, ?_, b2, a3.trans b3⟩
        rw [decide_eq_true q1, if_t, if_pos q2, hS.1.esec he, wD_ne (j := 1060 + e) (by omega), hes, c_held hS.1 hi4 hs, xb_l, eh, xlet_b, sp1, xb_l, xlet_b, sp1, xb_l, a1, xb_l]
        exact b1
      · have hu : sUn w c i = false := by unfold sUn; rw [decide_eq_false q2, Bool.and_false]
        rw [hu, if_f] at eDS hx hy
        rw [decide_eq_true q1, if_t, if_neg q2]
        exact c_spi hF hc hz o k (i + 1) n M x y (by omega) (by omega) (by rw [eDS]; exact hS) hx hy
    · have hu : sUn w c i = false := by unfold sUn; rw [decide_eq_false q1]; rfl
      rw [hu, if_f] at eDS hx hy
      rw [decide_eq_false q1, if_f]
      exact c_spi hF hc hz o k (i + 1) n M x y (by omega) (by omega) (by rw [eDS]; exact hS) hx hy
def sOu (A B : Int) (w : Nat → Int) (s nA : Nat) : Nat → Nat → Int → Int
  | 0, _, x => x
  | k + 1, c, x => sOu A B w s nA k (c + 1) (if w (10 + c) = 1 then x else w64 (x + sSp A B (sTo w s nA c)))
theorem c_spo {w T : Nat → Int} {e s nA : Nat} {A B : Int} (hF : SF w e s nA A B) (o : Int) : ∀ (k c n : Nat) (M : xM) (x : Int), c + k = nA → k < n → SS M (wD A B w s nA (dS w c 0) (dS w c 0) o) T → ∃ M', fX3_splitHoldings_5 399 (155 + 4 * e) n x (c : Int) M = some (.inl 0, M') ∧ SS M' (wD A B w s nA (dBl nA) (dBl nA) (sOu A B w s nA k c x)) T ∧ fz M M'
  | _, _, 0, _, _, _, hn, _ => absurd hn (Nat.not_lt_zero _)
  | 0, c, n + 1, M, x, hc, _, hS => by
    obtain ⟨he, hs, hP, h40, hes, hA, hB, hB1, h4, hrr⟩ := id hF
    have ecn : c = nA := by omega
    subst ecn
    have h0 := hP.1
    rw [dS_e hP] at hS
    have r1 := hS.1.sout_up hs (v := x)
    have v1 := hS.2.1.up (c := 56 + s) (k := 3) (v := x) (j := 192 + s) (u := x) (by omega) (by omega) (by omega) (by omega) (by omega) (by omega) (by omega)
    rw [wD_uo hs] at r1 v1
    refine ⟨xup M (56 + s) 3 x, ?_, ⟨r1, v1, hS.2.2.c (by omega)⟩, (fz.refl M).x (by omega)⟩
    rw [fX3_splitHoldings_5, xr_399_0, if_pos (by rw [hS.1.nA, wD_ne (by omega)]; omega), hS.1.esec he, wD_ne (j := 1060 + e) (by omega), hes, c_sec (by omega), xb_l, Int.toNat_natCast, xput_b]; rfl
  | k + 1, c, n + 1, M, x, hc, hn, hS => by
    obtain ⟨he, hs, hP, h40, hes, hA, hB, hB1, h4, hrr⟩ := id hF
    have h0 := hP.1
    have hc4 : c < 10 := by omega
    have hb := (hP.2 c hc4).1
    unfold sOu
    rw [fX3_splitHoldings_5, xr_399_0, if_neg (by rw [hS.1.nA, wD_ne (by omega)]; omega), c_acc (by omega), xb_l, Int.toNat_natCast, hS.1.pool hc4, wD_ne (j := 10 + c) (by omega), hb.nz]
    unfold fX3_splitHoldings_42
    rw [w32_s (by omega)]
    by_cases q : w (10 + c) = 1
    · rw [decide_eq_true q, if_t, if_pos q]
      exact c_spo hF o k (c + 1) n M x (by omega) (by omega) (by rw [← (dS_n hP (by omega)).2 q]; exact hS)
    · have hz : w (10 + c) = 0 := by rcases hb with h | h; exact h; exact absurd h q
      have eh : wD A B w s nA (dS w c 0) (dS w c 0) o (100 + 4 * c + s) = w (100 + 4 * c + s) := by rw [wD_h hc4 hs hs, if_neg (by rw [dS_g hz]; exact fun z => absurd z.2 (by decide))]
      obtain ⟨M1, a1, a2, a3⟩ := c_spi hF (c := c) (by omega) hz o nA 0 xN M (w (100 + 4 * c + s)) 0 (by omega) (by unfold xN; omega) hS rfl rfl
      obtain ⟨M2, b1, b2, b3⟩ := c_spo hF o k (c + 1) n M1 (w64 (x + sSp A B (sTo w s nA c))) (by omega) (by omega) a2
      refine ⟨M2, ?_, by rw [if_neg q]; exact b2, a3.trans b3⟩
      rw [decide_eq_false q, if_f]
      unfold fX3_splitWithPool
      rw [xr_399_0, c_acc (by omega), xb_l, Int.toNat_natCast, hS.1.esec he, wD_ne (j := 1060 + e) (by omega), hes, c_held hS.1 hc4 hs, xb_l, eh, show fX3_splitWithPool_25 399 (155 + 4 * e) (c : Int) xN (w (100 + 4 * c + s)) 0 0 M = _ from a1, xb_l, xlet_b]
      exact b1
-- the model's
theorem m_sp318 {M : xM} {w T : Nat → Int} {h : Int} {e s nA : Nat} {A B : Int} (hF : SF w e s nA A B) (rc' : Int → xM → xO) {c : Nat} (hc : c < nA) (DH : Nat → Bool) (o : Int) : fX12_split_318 rc' 400 (s : Int) A B (c : Int) (st M (wD A B w s nA DH (dBl c) o) T h) = rc' ((c + 1 : Nat) : Int) (st M (wD A B w s nA DH (dBl (c + 1)) o) T h) := by
  obtain ⟨he, hs, hP, h40, hes, hA, hB, hB1, h4, hrr⟩ := id hF
  have h0 := hP.1
  have hc4 : c < 10 := by omega
  have e0 : dBl c c = false := by unfold dBl; rw [decide_eq_false (show ¬ c < c by omega), Bool.and_false]
  have e1 : gs (dBl c) c = dBl (c + 1) := by
    funext a
    unfold gs dBl
    by_cases z : a = c
    · rw [z, decide_eq_true hc4, decide_eq_true (show c = c from rfl), decide_eq_true (show c < c + 1 by omega), Bool.or_true]; rfl
    · rw [decide_eq_false z, Bool.or_false]
      by_cases y : a < c
      · rw [decide_eq_true y, decide_eq_true (show a < c + 1 by omega)]
      · rw [decide_eq_false y, decide_eq_false (show ¬ a < c + 1 by omega)]
  unfold fX12_split_318
  rw [xnz_t (by omega)]
  simp (disch := omega) only [w32_i, xix_t, xr_400_0, tn_add, tn_4, Int.toNat_natCast, Int.reduceToNat, xput_b, st_w, st_401]
  rw [wD_b hc4 hs hs, if_neg (by rw [e0]; exact fun z => absurd z.2 (by decide)), show Int.tdiv (w64 (w (140 + 4 * c + s) * A)) B = sSp A B (w (140 + 4 * c + s)) from rfl, wD_ub hc4 hs, e1, show (c : Int) + 1 = ((c + 1 : Nat) : Int) by omega]
theorem m_spi {M : xM} {w T : Nat → Int} {h : Int} {e s nA : Nat} {A B : Int} (hF : SF w e s nA A B) (rc' : Int → xM → xO) {c : Nat} (hc : c < nA) (hz : w (10 + c) = 0) (o : Int) : ∀ (k i n : Nat) (x y : Int), i + k = nA → k < n → R64 x → R64 y → sAl w s c k i x = sTo w s nA c → sGi A B w s c k i y = sGi A B w s c nA 0 0 → fX12_split_101 rc' 400 (s : Int) A B (c : Int) n x y (i : Int) (st M (wD A B w s nA (dS w c i) (dBl c) o) T h) = rc' ((c + 1 : Nat) : Int) (st M (wD A B w s nA (dS w (c + 1) 0) (dBl (c + 1)) (w64 (o + sSp A B (sTo w s nA c)))) T h)
  | _, _, 0, _, _, _, hn, _, _, _, _ => absurd hn (Nat.not_lt_zero _)
  | 0, i, n + 1, x, y, hi, _, hxr, hyr, hx, hy => by
    obtain ⟨he, hs, hP, h40, hes, hA, hB, hB1, h4, hrr⟩ := id hF
    have h0 := hP.1
    have ein : i = nA := by omega
    subst ein
    have hx' : x = sTo w s i c := hx
    have hy' : y = sGi A B w s c i 0 0 := hy
    have hc4 : c < 10 := by omega
    rw [fX12_split_101, xr_400_0, st_401, wD_ne (by omega), if_pos (by omega)]
    simp (disch := omega) only [xnz_t]
    simp (disch := omega) only [w32_i, xix_t, tn_add, tn_4, Int.toNat_natCast, Int.reduceToNat, xput_b, st_w, st_401, ups_ne]
    have ev : w64 (Int.tdiv (w64 (x * A)) B - y) = sNh A B w s i c := by unfold sNh; rw [if_neg (by omega), hx', hy']; rfl
    rw [ev, wD_uh hc4 hs, (dS_n hP hc).1 hz, wD_o hs, wD_uo hs, show Int.tdiv (w64 (x * A)) B = sSp A B x from rfl, hx', m_sp318 hF rc' hc]
  | k + 1, i, n + 1, x, y, hi, hn, hxr, hyr, hx, hy => by
    obtain ⟨he, hs, hP, h40, hes, hA, hB, hB1, h4, hrr⟩ := id hF
    have h0 := hP.1
    have hi4 : i < 10 := by omega
    have hb := (hP.2 i hi4).1
    have eDS := dS_s hP (c := c) hi4
    unfold sAl at hx
    rw [sGi_s] at hy
    have key : ∀ b : Bool, b = sUn w c i → fX12_split_150 (fX12_split_101 rc' 400 (s : Int) A B (c : Int) n) 400 (s : Int) A B (c : Int) x y (i : Int) (bi b) (st M (wD A B w s nA (dS w c i) (dBl c) o) T h) = rc' ((c + 1 : Nat) : Int) (st M (wD A B w s nA (dS w (c + 1) 0) (dBl (c + 1)) (w64 (o + sSp A B (sTo w s nA c)))) T h) := fun b hu => by
      unfold fX12_split_150 fX12_split_177 fX12_split_210 fX12_split_267
      simp (disch := omega) only [xnz_t]
      simp (disch := omega) only [w32_i, xix_t, xr_400_0, tn_add, tn_4, Int.toNat_natCast, Int.reduceToNat, xput_b, st_w, st_401, xlet_b]
      cases b
      · rw [← hu, if_f] at eDS hx hy
        simp only [if_b0, Bool.false_eq_true, ↓reduceIte]
        rw [Int.add_zero, Int.add_zero, w64_id hxr, w64_id hyr, ups_self, show (i : Int) + 1 = ((i + 1 : Nat) : Int) by omega, ← eDS]
        exact m_spi hF rc' hc hz o k (i + 1) n x y (by omega) (by omega) hxr hyr hx hy
      · rw [← hu, if_t] at eDS hx hy
        have hd := dS_f hP hi4 hu.symm
        have eh : wD A B w s nA (dS w c i) (dBl c) o (100 + 4 * i + s) = w (100 + 4 * i + s) := by rw [wD_h hi4 hs hs, if_neg (by rw [hd]; exact fun z => absurd z.2 (by decide))]
        have q1 : w (10 + i) = 1 := of_decide_eq_true (and_tt hu.symm).1
        have en : sSp A B (w (100 + 4 * i + s)) = sNh A B w s nA i := by unfold sNh; rw [if_pos q1]
        simp only [if_b0, ↓reduceIte]
        rw [eh, show Int.tdiv (w64 (w (100 + 4 * i + s) * A)) B = sSp A B (w (100 + 4 * i + s)) from rfl]
        have ih := m_spi (M := M) (T := T) (h := h) hF rc' hc hz o k (i + 1) n _ _ (by omega) (by omega) (w64_r _) (w64_r _) hx hy
        rw [eDS, ← wD_uh hi4 hs, ← en] at ih
        rw [show (i : Int) + 1 = ((i + 1 : Nat) : Int) by omega]; exact ih
    rw [fX12_split_101, xr_400_0, st_401, wD_ne (by omega), if_neg (by omega), xix_t (by omega) (by omega), Int.toNat_natCast, wD_ne (by omega)]
    unfold fX12_split_149
    simp (disch := omega) only [w32_i, xix_t, tn_add, Int.toNat_natCast, Int.reduceToNat]
    rw [wD_ne (by omega)]
    by_cases q2 : w i = (c : Int)
    · rw [if_pos q2]
      by_cases q1 : w (10 + i) = 1
      · rw [if_pos q1]; exact key true (by unfold sUn; rw [decide_eq_true q1, decide_eq_true q2]; rfl)
      · rw [if_neg q1]; exact key false (by unfold sUn; rw [decide_eq_false q1]; rfl)
    · rw [if_neg q2]; exact key false (by unfold sUn; rw [decide_eq_false q2, Bool.and_false])
