theorem II.mono {w w' : Nat → Int} (h : II w) (hC : IC w) (hw : ∀ j, ((210 ≤ j ∧ j < 770) ∨ (870 ≤ j ∧ j < 890) ∨ j = 1542 ∨ j = 1543) → w' j = w j) (h0 : w 1540 ≤ w' 1540) (h1 : w 1541 ≤ w' 1541) : II w' := by
  intro i hi
  have c := hC.2.2.2.1
  obtain ⟨q1, q2⟩ := h i hi
  refine ⟨fun hl => ?_, fun hl => ?_⟩
  · rw [hw 1542 (by omega)] at hl
    have k := q1 hl
    have b : (w (650 + i)).toNat < 20 := by have := k.2.2.2.2.2.2.2.2.2.2.1; omega
    simp only [di, ri] at k ⊢
    clear q1 q2 h
    obtain ⟨k1, k2, k3, k4, kr⟩ := k
    have e1 := hw (210 + i) (by omega)
    have e2 := hw (250 + i) (by omega)
    have e4 := hw (330 + i) (by omega)
    refine ⟨by rw [e1]; omega, by rw [e2]; omega, by rw [e1, e2]; exact k3, by rw [e4]; omega, ?_⟩
    clear h0 h1 e1 e2 e4 k1 k2 k3 k4
    simp (disch := omega) only [hw]
    exact kr
  · rw [hw 1542 (by omega)] at hl
    rw [hw (570 + i) (by omega), hw (610 + i) (by omega), hw (690 + i) (by omega)]; exact q2 hl
theorem IL.mono {w w' : Nat → Int} (h : IL w) (hw : ∀ j, ((930 ≤ j ∧ j < 1050) ∨ j = 1545 ∨ (1130 ≤ j ∧ j < 1140)) → w' j = w j) (h0 : w 1540 ≤ w' 1540) (h1 : w 1541 ≤ w' 1541) : IL w' := by
  intro l hl hc
  rw [hw 1545 (by omega)] at hc
  have k := h l hl hc
  rw [hw (930 + l) (by omega), hw (950 + l) (by omega), hw (970 + l) (by omega), hw (990 + l) (by omega), hw (1010 + l) (by omega), hw (1030 + l) (by omega), KQ_eq (w := w) (fun e he => hw _ (by omega))]
  exact ⟨by omega, by omega, by omega, k.2.2.2⟩
theorem IE.mono {w w' : Nat → Int} (h : IE w) (hw : ∀ j, ((1050 ≤ j ∧ j < 1540) ∨ j = 1546) → w' j = w j) (h1 : w 1541 ≤ w' 1541) : IE w' := by
  intro e he
  have k := h e he
  have hK : KQ w' = KQ w := KQ_eq (fun e he => hw _ (by omega))
  have e1 : ∀ a : Nat, a < 10 → w' (1140 + 10 * e + a) = w (1140 + 10 * e + a) := fun a ha => hw _ (by omega)
  have e2 : ∀ a : Nat, a < 10 → w' (1240 + 10 * e + a) = w (1240 + 10 * e + a) := fun a ha => hw _ (by omega)
  have e3 : ∀ t : Nat, t < 20 → w' (1340 + 20 * e + t) = w (1340 + 20 * e + t) := fun a ha => hw _ (by omega)
  obtain ⟨k1, k2, k3, k4, k5, k6, k7⟩ := k
  rw [hw (1050 + e) (by omega), hw (1060 + e) (by omega), hw (1070 + e) (by omega), hw (1080 + e) (by omega), hw (1090 + e) (by omega), hw (1100 + e) (by omega), hw (1110 + e) (by omega), hw (1120 + e) (by omega), hw (1130 + e) (by omega), hw 1546 (by omega), hK]
  refine ⟨fun hl => ?_, k2, k3, k4, fun q => ⟨fun a ha => ?_, fun t ht => ?_⟩, fun a ha => ?_, fun t ht => ?_⟩
  · have k := k1 hl
    exact ⟨k.1, ⟨k.2.1.1, by have := k.2.1.2; omega⟩, k.2.2⟩
  · rw [e1 a ha, e2 a ha]; exact (k5 q).1 a ha
  · rw [e3 t ht]; exact (k5 q).2 t ht
  · rw [e1 a ha, e2 a ha]; exact k6 a ha
  · rw [e3 t ht]; exact k7 t ht
-- open
def wOp (w : Nat → Int) (a : Nat) (c p t h l : Int) : Nat → Int := ups (ups (ups (ups (ups (ups w a c) (10 + a) p) (20 + a) t) (30 + a) h) (50 + a) l) 1540 ((a : Int) + 1)
def mOp (M : xM) (a : Nat) (c p t h l : Int) : xM := xup (xup (xup (xup (xup (xup M (12 + 4 * a) 1 c) (12 + 4 * a) 2 p) (12 + 4 * a) 0 t) (12 + 4 * a) 5 h) (12 + 4 * a) 7 l) 3 9 ((a : Int) + 1)
def oOk (w : Nat → Int) (c : Int) : Bool := decide (c = -1) || inb c (w 1540)
def oSt (w : Nat → Int) (c : Int) : Bool := (decide (c = -1) || decide (w c.toNat = -1)) && decide (w 1540 < 10)
def oPl (c b : Int) : Int := if b = 0 then 0 else if c = -1 then 0 else 1
theorem cs_open {M : xM} {w : Nat → Int} (hR : R M w) (hC : IC w) (c b t h l : Int) : fX11_open 0 c b t h l M = if oOk w c then (if rg t 0 2 && (rg h 0 1000000 && rg l 0 1000000) then (if oSt w c then some (.inl (w 1540), mOp M (w 1540).toNat c (oPl c b) t h l) else some (.inr 2, M)) else some (.inr 1, M)) else some (.inr 0, M) := by
  have hb := hC.1
  have k77 : fX11_open_77 0 c b t h l 1 M = some (.inl (w 1540), mOp M (w 1540).toNat c (oPl c b) t h l) ∨ ¬ w 1540 < 10 := by
    by_cases z : w 1540 < 10
    · left
      obtain ⟨a, ha⟩ := ex_nat hb.1
      have ha2 : (w 1540).toNat = a := by omega
      unfold fX11_open_77 fX11_open_121 fX11_open_122
      rw [c_sta1, xb_l, xr_0_1, hR.nA, ha, c_acc (by omega), xb_l, Int.toNat_natCast, w32_i (by omega) (by omega)]
      simp only [xput_b]
      unfold mOp oPl
      by_cases z1 : b = 0
      · simp only [if_pos z1]; rfl
      · simp only [if_neg z1]
        by_cases z2 : c = -1
        · simp only [if_pos z2]; rfl
        · simp only [if_neg z2]; rfl
    · exact Or.inr z
  have k57 : ∀ p : Bool, fX11_open_57 0 c b t h l (bi p) M = if p && decide (w 1540 < 10) then some (.inl (w 1540), mOp M (w 1540).toNat c (oPl c b) t h l) else some (.inr 2, M) := fun p => by
    unfold fX11_open_57
    rw [c_sta]
    cases p
    · rfl
    · rw [if_t, xb_l, xr_0_1, hR.nA]
      by_cases z : 10 ≤ w 1540
      · rw [if_pos z, decide_eq_false (by omega)]
        unfold fX11_open_77
        rw [c_sta0, xb_r]; rfl
      · rw [if_neg z, decide_eq_true (by omega)]
        rcases k77 with k | k
        · rw [k]; rfl
        · exact absurd (by omega) k
  have k10 : oOk w c = true → fX11_open_10 0 c b t h l M = if rg t 0 2 && (rg h 0 1000000 && rg l 0 1000000) then (if oSt w c then some (.inl (w 1540), mOp M (w 1540).toNat c (oPl c b) t h l) else some (.inr 2, M)) else some (.inr 1, M) := fun ho => by
    unfold fX11_open_10 fX11_open_52
    rw [c_rng]
    cases rg t 0 2
    · rfl
    · rw [if_t, xb_l, c_rng]
      cases rg h 0 1000000
      · rfl
      · rw [if_t, xb_l, c_rng]
        cases rg l 0 1000000
        · rfl
        · rw [if_t, xb_l, show fX11_open_57 0 c b t h l 1 M = _ from k57 true]
          by_cases z : c = -1
          · rw [if_pos z]
            unfold oSt
            rw [decide_eq_true z]; rfl
          · rw [if_neg z]
            unfold oOk at ho
            rw [decide_eq_false z, Bool.false_or] at ho
            obtain ⟨a, rfl, ha⟩ := inb_t ho
            rw [xr_0_1, c_acc (by omega), xb_l, Int.toNat_natCast, hR.cust (by omega) ha, show fX11_open_57 0 (a : Int) b t h l 1 M = _ from k57 true, show fX11_open_57 0 (a : Int) b t h l 0 M = _ from k57 false]
            unfold oSt
            rw [decide_eq_false z, Bool.false_or, Int.toNat_natCast]
            by_cases z2 : w a = -1
            · rw [if_pos z2, decide_eq_true z2]; rfl
            · rw [if_neg z2, decide_eq_false z2]; rfl
  unfold fX11_open
  by_cases z : c = -1
  · have ho : oOk w c = true := by unfold oOk; rw [decide_eq_true z]; rfl
    rw [if_pos z, k10 ho, ho]; rfl
  · rw [if_neg z, c_needA hR]
    have ho : oOk w c = inb c (w 1540) := by unfold oOk; rw [decide_eq_false z, Bool.false_or]
    rw [← ho]
    cases q : oOk w c
    · rfl
    · rw [if_t, xb_l, k10 q]; rfl
theorem ms_open {M : xM} (hC : IC (M 401)) (hA : IA (M 401)) (c b t h l : Int) : fX12_open 400 c b t h l M = if oOk (M 401) c then (if rg t 0 2 && (rg h 0 1000000 && rg l 0 1000000) then (if oSt (M 401) c then some (.inl (M 401 1540), st M (wOp (M 401) (M 401 1540).toNat c (oPl c b) t h l) (M 403) 0) else some (.inl (-1), st M (M 401) (M 403) 3)) else some (.inl (-1), st M (M 401) (M 403) 2)) else some (.inl (-1), st M (M 401) (M 403) 1) := by
  have hb := hC.1
  have e : ∀ s : Int, 0 < s → fX12_open_139 400 c b t h l s 400 M = some (.inl (-1), st M (M 401) (M 403) s) := fun s hs => by
    unfold fX12_open_139
    rw [m_holds', xb_l, decide_eq_true hs, if_b0]; rfl
  have g : M 401 1540 < 10 → (c = -1 ∨ 0 ≤ c) → fX12_open_139 400 c b t h l 0 400 M = some (.inl (M 401 1540), st M (wOp (M 401) (M 401 1540).toNat c (oPl c b) t h l) (M 403) 0) := fun h10 hcc => by
    obtain ⟨a, ha⟩ := ex_nat hb.1
    unfold fX12_open_139 fX12_open_188 fX12_open_189
    rw [m_holds', xb_l, if_b0, if_d0, xr_400_0, st_401, xlet_b, ha, w32_i (by omega) (by omega)]
    simp (disch := omega) only [w32_i, xix_t, tn_add, Int.toNat_natCast, Int.reduceToNat, xlet_b, xput_b, st_w, st_401, ups_ne, w64_i, ha]
    unfold wOp oPl
    by_cases z1 : b = 0
    · simp only [if_pos z1]; rfl
    · simp only [if_neg z1]
      by_cases z2 : c = -1
      · simp only [if_pos z2, if_pos (show c < 0 by omega)]; rfl
      · simp only [if_neg z2, if_neg (show ¬ c < 0 by omega)]; rfl
  have k66 : ∀ p : Bool, oOk (M 401) c = true → fX12_open_66 400 c b t h l (bi p) 1 M = if p then (if oSt (M 401) c then some (.inl (M 401 1540), st M (wOp (M 401) (M 401 1540).toNat c (oPl c b) t h l) (M 403) 0) else some (.inl (-1), st M (M 401) (M 403) 3)) else some (.inl (-1), st M (M 401) (M 403) 2) := fun p ho => by
    unfold fX12_open_66 fX12_open_88 fX12_open_103 fX12_open_108
    rw [xr_400_0]
    simp only [e 1 (by omega), e 2 (by omega), e 3 (by omega), if_b0, if_neg (show ¬ (1 : Int) = 0 by decide), if_pos (show (0 : Int) = 0 from rfl)]
    unfold oSt oOk at *
    cases p
    · simp only [if_f, ite_self]
      by_cases z : c < 0
      · rw [if_pos z]
      · rw [if_neg z]
        rw [decide_eq_false (show ¬ c = -1 by omega), Bool.false_or] at ho
        obtain ⟨a, rfl, ha⟩ := inb_t ho
        rw [xix_t (by omega) (by omega)]
    · rw [if_t, if_t]
      by_cases z : c = -1
      · rw [if_pos (show c < 0 by omega), decide_eq_true z, Bool.true_or, Bool.true_and]
        by_cases z2 : M 401 1540 = 10
        · rw [if_pos z2, decide_eq_false (by omega)]; rfl
        · rw [if_neg z2, decide_eq_true (by omega), g (by omega) (Or.inl z)]; rfl
      · rw [decide_eq_false z, Bool.false_or] at ho
        obtain ⟨a, rfl, ha⟩ := inb_t ho
        have ka := (hA a (by omega)).2.2.2.2.2.1 ha
        rw [if_neg (show ¬ (a : Int) < 0 by omega), xix_t (by omega) (by omega), Int.toNat_natCast, decide_eq_false z, Bool.false_or]
        by_cases z3 : 0 ≤ M 401 a
        · rw [if_pos z3, decide_eq_false (by omega)]; rfl
        · rw [if_neg z3, decide_eq_true (by omega), Bool.true_and]
          by_cases z2 : M 401 1540 = 10
          · rw [if_pos z2, decide_eq_false (by omega)]; rfl
          · rw [if_neg z2, decide_eq_true (by omega), g (by omega) (Or.inr (by omega))]; rfl
  have k46 : ∀ p : Bool, fX12_open_46 400 c b t h l (bi p) M = if oOk (M 401) c then (if p then (if oSt (M 401) c then some (.inl (M 401 1540), st M (wOp (M 401) (M 401 1540).toNat c (oPl c b) t h l) (M 403) 0) else some (.inl (-1), st M (M 401) (M 403) 3)) else some (.inl (-1), st M (M 401) (M 403) 2)) else some (.inl (-1), st M (M 401) (M 403) 1) := fun p => by
    unfold fX12_open_46 fX12_open_61
    by_cases z : c = -1
    · have ho : oOk (M 401) c = true := by unfold oOk; rw [decide_eq_true z]; rfl
      rw [if_pos z, k66 p ho, ho]; rfl
    · have ho : oOk (M 401) c = inb c (M 401 1540) := by unfold oOk; rw [decide_eq_false z, Bool.false_or]
      rw [if_neg z, m_isA c M hC, xb_l, if_b0, ← ho]
      cases q : oOk (M 401) c
      · rw [if_f, if_f]
        unfold fX12_open_66 fX12_open_88 fX12_open_103 fX12_open_108
        simp only [if_pos (show (0 : Int) = 0 from rfl), e 1 (by omega), ite_self, if_true]
      · rw [if_t, if_t, k66 p q]
  unfold fX12_open fX12_open_45
  rw [m_rg, xb_l, if_b0, m_rg, xb_l, if_b0, m_rg, xb_l, if_b0, show (0 : Int) = bi false from rfl, show (1 : Int) = bi true from rfl, k46, k46]
  cases rg t (bi false) 2 <;> cases rg h (bi false) 1000000 <;> cases rg l (bi false) 1000000 <;> rfl
