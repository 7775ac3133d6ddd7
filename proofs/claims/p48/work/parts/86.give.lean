-- units move for good; loans are given back
def PG (w : Nat → Int) : Prop := ∀ e : Nat, e < 10 → w (1120 + e) = 1 → (w (1060 + e)).toNat < 4
theorem Inv0.pg {w : Nat → Int} (h : Inv0 w) : PG w := h.2.2.2.2.2.2.2.2.sec4 h.1
theorem c_mv1 {M : xM} {w T : Nat → Int} (hS : SS M w T) (hp : PG w) {a s : Nat} (ha : a < 10) (hs : s < 4) (v : Int) : ∃ M', fX0_move (12 + 4 * a) (s : Int) v (M 3 17) M = some (.inl 0, M') ∧ SS M' (ups w (100 + 4 * a + s) (w64 (w (100 + 4 * a + s) + v))) T ∧ fz M M' := by
  obtain ⟨hR, hV, hT⟩ := hS
  have nl := np_le w 10
  refine ⟨xup (xup M (13 + 4 * a) s (w64 (w (100 + 4 * a + s) + v))) (15 + 4 * a) (4 * np w 10 + s) (w64 (M (15 + 4 * a) (4 * np w 10 + s) + v)), by rw [hV.1, c_move ha hs (by omega), hR.held ha hs], ⟨(hR.held_up ha hs).cls1 (frc_mov a (by omega) _ (by omega)), ?_, (hT.c (by omega)).c (by omega)⟩, ((fz.refl M).x (by omega)).x (by omega)⟩
  have := (hV.cell (c := 13 + 4 * a) (k := s) (v := w64 (w (100 + 4 * a + s) + v)) (by omega) (by omega) (by omega)).move ha hs (c := v) hp
  rw [xup_c (by omega)] at this; exact this
def wU (w : Nat → Int) (a b s : Nat) (u : Int) : Nat → Int := ups (ups w (100 + 4 * a + s) (w64 (w (100 + 4 * a + s) - u))) (100 + 4 * b + s) (w64 (ups w (100 + 4 * a + s) (w64 (w (100 + 4 * a + s) - u)) (100 + 4 * b + s) + u))
theorem wU_ne {w : Nat → Int} {a b s : Nat} {u : Int} (ha : a < 10) (hb : b < 10) (hs : s < 4) {j : Nat} (hj : j < 100 ∨ 140 ≤ j) : wU w a b s u j = w j := by
  unfold wU; rw [ups_ne (by omega), ups_ne (by omega)]
theorem c_mvU {M : xM} {w T : Nat → Int} (hS : SS M w T) (hp : PG w) {a b s : Nat} (ha : a < 10) (hb : b < 10) (hs : s < 4) (u : Int) : ∃ M', fX1_moveUnits 3 (a : Int) (b : Int) (s : Int) u M = some (.inl 0, M') ∧ SS M' (wU w a b s u) T ∧ fz M M' := by
  obtain ⟨M1, a1, a2, a3⟩ := c_mv1 hS hp ha hs (w64 (-u))
  rw [w64_add', show w (100 + 4 * a + s) + -u = w (100 + 4 * a + s) - u from rfl] at a2
  obtain ⟨M2, b1, b2, b3⟩ := c_mv1 a2 (fun e he hn => by rw [ups_ne (by omega)] at hn; rw [ups_ne (by omega)]; exact hp e he hn) hb hs u
  refine ⟨M2, ?_, b2, a3.trans b3⟩
  unfold fX1_moveUnits
  rw [c_acc (by omega), xb_l, Int.toNat_natCast, a1, xb_l, c_acc (by omega), xb_l, Int.toNat_natCast, b1, xb_l]; rfl
/-- who keeps the sums of holdings keeps the invariant of holdings -/
theorem IH.mk' {w w' : Nat → Int} (h : IH w) (hw : ∀ j, (j < 100 ∨ 140 ≤ j) → w' j = w j) (h1 : ∀ a s : Nat, a < 10 → s < 4 → w (140 + 4 * a + s) ≤ w' (100 + 4 * a + s) ∧ (w 1540 ≤ (a : Int) → w' (100 + 4 * a + s) = 0) ∧ (w 1541 ≤ (s : Int) → w' (100 + 4 * a + s) = 0)) (h2 : ∀ s : Nat, s < 4 → sm (fun a => w' (100 + 4 * a + s)) 10 = sm (fun a => w (100 + 4 * a + s)) 10) : IH w' := by
  refine ⟨fun a s ha hs => ?_, fun s hs => ?_⟩
  · have k := h.1 a s ha hs
    have k1 := h1 a s ha hs
    rw [hw (140 + 4 * a + s) (by omega), hw 1540 (by omega), hw 1541 (by omega)]
    exact ⟨k.1, k1.1, k1.2.1, k1.2.2⟩
  · rw [h2 s hs, hw _ (by omega), KQ_eq (fun e he => hw _ (by omega))]; exact h.2 s hs
theorem Inv0.hld {w w' : Nat → Int} (h : Inv0 w) (hw : ∀ j, (j < 100 ∨ 140 ≤ j) → w' j = w j) (h1 : ∀ a s : Nat, a < 10 → s < 4 → w (140 + 4 * a + s) ≤ w' (100 + 4 * a + s) ∧ (w 1540 ≤ (a : Int) → w' (100 + 4 * a + s) = 0) ∧ (w 1541 ≤ (s : Int) → w' (100 + 4 * a + s) = 0)) (h2 : ∀ s : Nat, s < 4 → sm (fun a => w' (100 + 4 * a + s)) 10 = sm (fun a => w (100 + 4 * a + s)) 10) : Inv0 w' := by
  obtain ⟨hC, hA, hS, hH, hI, hT, hK, hL, hE⟩ := h
  exact ⟨hC.fr (fun j _ _ => hw j (by omega)), hA.fr hC (fun j _ => hw j (by omega)), hS.fr (fun j _ => hw j (by omega)), hH.mk' hw h1 h2, hI.fr hC (fun j _ => hw j (by omega)), hT.fr hC (fun j _ => hw j (by omega)), hK.fr (fun j _ => hw j (by omega)), hL.fr (fun j _ => hw j (by omega)), hE.fr (fun j _ => hw j (by omega))⟩
theorem Inv0.mvu {w : Nat → Int} (h : Inv0 w) {a b s : Nat} (ha : (a : Int) < w 1540) (hb : (b : Int) < w 1540) (hs : (s : Int) < w 1541) {u : Int} (h0 : 0 ≤ u) (hu : u ≤ w (100 + 4 * a + s) - w (140 + 4 * a + s)) : Inv0 (wU w a b s u) := by
  have c0 := h.1.1
  have c1 := h.1.2.1
  have kq := KQ_le w
  have hH := h.2.2.2.1
  have la := hH.le (a := a) (s := s) (by omega) (by omega)
  have lb := hH.le (a := b) (s := s) (by omega) (by omega)
  have e1 : w64 (w (100 + 4 * a + s) - u) = w (100 + 4 * a + s) - u := w64_i (by omega) (by omega)
  by_cases q : a = b
  · have : wU w a b s u = w := by
      rw [← q]
      unfold wU
      rw [e1, ups_same, w64_i (by omega) (by omega), show w (100 + 4 * a + s) - u + u = w (100 + 4 * a + s) by omega]
      funext j
      by_cases z : j = 100 + 4 * a + s
      · rw [z, ups_same]
      · rw [ups_ne z, ups_ne z]
    rw [this]; exact h
  · have e2 : ∀ x y : Nat, x < 10 → y < 4 → wU w a b s u (100 + 4 * x + y) = w (100 + 4 * x + y) + (if x = a ∧ y = s then -u else 0) + (if x = b ∧ y = s then u else 0) := fun x y hx hy => by
      unfold wU
      rw [e1, ups_ne (i := 100 + 4 * b + s) (by omega), w64_i (x := w (100 + 4 * b + s) + u) (by omega) (by omega)]
      by_cases z1 : x = b ∧ y = s
      · rw [if_pos z1, if_neg (by omega), z1.1, z1.2, ups_same]; omega
      · rw [if_neg z1, ups_ne (by omega)]
        by_cases z2 : x = a ∧ y = s
        · rw [if_pos z2, z2.1, z2.2, ups_same]; omega
        · rw [if_neg z2, ups_ne (by omega)]; omega
    refine h.hld (fun j hj => wU_ne (by omega) (by omega) (by omega) hj) (fun x y hx hy => ?_) (fun y hy => ?_)
    · rw [e2 x y hx hy]
      have k := hH.1 x y hx hy
      refine ⟨?_, fun z => ?_, fun z => ?_⟩
      · by_cases z2 : x = a ∧ y = s
        · obtain ⟨rfl, rfl⟩ := z2
          rw [if_pos ⟨rfl, rfl⟩, if_neg (by omega)]; omega
        · rw [if_neg z2]; split <;> omega
      · rw [if_neg (by omega), if_neg (by omega)]; have := k.2.2.1 z; omega
      · rw [if_neg (by omega), if_neg (by omega)]; have := k.2.2.2 z; omega
    · by_cases z : y = s
      · subst z
        have s1 := sm_up (f := fun x => w (100 + 4 * x + y)) (g := fun x => if x = a then w (100 + 4 * a + y) - u else w (100 + 4 * x + y)) (b := a) 10 (by omega) (fun x _ hne => if_neg hne)
        have s2 := sm_up (f := fun x => if x = a then w (100 + 4 * a + y) - u else w (100 + 4 * x + y)) (g := fun x => wU w a b y u (100 + 4 * x + y)) (b := b) 10 (by omega) (fun x hx hne => by
          show wU w a b y u (100 + 4 * x + y) = _
          rw [e2 x y hx hy, if_neg (c := x = b ∧ y = y) (by omega)]
          by_cases v : x = a
          · rw [if_pos ⟨v, rfl⟩, if_pos v, v]; omega
          · rw [if_neg (by omega), if_neg v]; omega)
        rw [s2, s1]
        show _ + ((if a = a then w (100 + 4 * a + y) - u else _) - w (100 + 4 * a + y)) + (wU w a b y u (100 + 4 * b + y) - (if b = a then w (100 + 4 * a + y) - u else w (100 + 4 * b + y))) = _
        rw [if_pos rfl, if_neg (fun z => q z.symm), e2 b y (by omega) hy, if_neg (by omega), if_pos ⟨rfl, rfl⟩]; omega
      · exact sm_eq 10 (fun x hx => by rw [e2 x y hx hy, if_neg (by omega), if_neg (by omega)]; omega)
