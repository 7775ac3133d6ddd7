theorem II.mono {w w' : Nat → Int} (h : II w) (hC : IC w) (hw : ∀ j, ((210 ≤ j ∧ j < 770) ∨ (870 ≤ j ∧ j < 890) ∨ j = 1542 ∨ j = 1543) → w' j = w j) (h0 : w 1540 ≤ w' 1540) (h1 : w 1541 ≤ w' 1541) : II w' := by
  intro i hi
  have c := hC.2.2.2.1
  obtain ⟨q1, q2⟩ := h i hi
  refine ⟨fun hl => ?_, fun hl => ?_⟩
  · rw [hw 1542 (by omega)] at hl
    have k := q1 hl
    have b : (w (650 + i)).toNat < 20 := by have := k.2.2.2.2.2.2.2.2.2.2.1; omega
    simp only [di, ri] at k ⊢
    clear q1 q2 h
    obtain ⟨k1, k2, k3, k4, kr⟩ := k
    have e1 := hw (210 + i) (by omega)
    have e2 := hw (250 + i) (by omega)
    have e4 := hw (330 + i) (by omega)
    refine ⟨by rw [e1]; omega, by rw [e2]; omega, by rw [e1, e2]; exact k3, by rw [e4]; omega, ?_⟩
    clear h0 h1 e1 e2 e4 k1 k2 k3 k4
    simp (disch := omega) only [hw]
    exact kr
  · rw [hw 1542 (by omega)] at hl
    rw [hw (570 + i) (by omega), hw (610 + i) (by omega), hw (690 + i) (by omega)]; exact q2 hl
theorem IL.mono {w w' : Nat → Int} (h : IL w) (hw : ∀ j, ((930 ≤ j ∧ j < 1050) ∨ j = 1545 ∨ (1130 ≤ j ∧ j < 1140)) → w' j = w j) (h0 : w 1540 ≤ w' 1540) (h1 : w 1541 ≤ w' 1541) : IL w' := by
  intro l hl hc
  rw [hw 1545 (by omega)] at hc
  have k := h l hl hc
  rw [hw (930 + l) (by omega), hw (950 + l) (by omega), hw (970 + l) (by omega), hw (990 + l) (by omega), hw (1010 + l) (by omega), hw (1030 + l) (by omega), KQ_eq (w := w) (fun e he => hw _ (by omega))]
  exact ⟨by omega, by omega, by omega, k.2.2.2⟩
theorem IE.mono {w w' : Nat → Int} (h : IE w) (hw : ∀ j, ((1050 ≤ j ∧ j < 1540) ∨ j = 1546) → w' j = w j) (h1 : w 1541 ≤ w' 1541) : IE w' := by
  intro e he
  have k := h e he
  have hK : KQ w' = KQ w := KQ_eq (fun e he => hw _ (by omega))
  have e1 : ∀ a : Nat, a < 10 → w' (1140 + 10 * e + a) = w (1140 + 10 * e + a) := fun a ha => hw _ (by omega)
  have e2 : ∀ a : Nat, a < 10 → w' (1240 + 10 * e + a) = w (1240 + 10 * e + a) := fun a ha => hw _ (by omega)
  have e3 : ∀ t : Nat, t < 20 → w' (1340 + 20 * e + t) = w (1340 + 20 * e + t) := fun a ha => hw _ (by omega)
  obtain ⟨k1, k2, k3, k4, k5, k6, k7⟩ := k
  rw [hw (1050 + e) (by omega), hw (1060 + e) (by omega), hw (1070 + e) (by omega), hw (1080 + e) (by omega), hw (1090 + e) (by omega), hw (1100 + e) (by omega), hw (1110 + e) (by omega), hw (1120 + e) (by omega), hw (1130 + e) (by omega), hw 1546 (by omega), hK]
  refine ⟨fun hl => ?_, k2, k3, k4, fun q => ⟨fun a ha => ?_, fun t ht => ?_⟩, fun a ha => ?_, fun t ht => ?_⟩
  · have k := k1 hl
    exact ⟨k.1, ⟨k.2.1.1, by have := k.2.1.2; omega⟩, k.2.2⟩
  · rw [e1 a ha, e2 a ha]; exact (k5 q).1 a ha
  · rw [e3 t ht]; exact (k5 q).2 t ht
  · rw [e1 a ha, e2 a ha]; exact k6 a ha
  · rw [e3 t ht]; exact k7 t ht
-- open
def wOp (w : Nat → Int) (a : Nat) (c p t h l : Int) : Nat → Int := ups (ups (ups (ups (ups (ups w a c) (10 + a) p) (20 + a) t) (30 + a) h) (50 + a) l) 1540 ((a : Int) + 1)
def mOp (M : xM) (a : Nat) (c p t h l : Int) : xM := xup (xup (xup (xup (xup (xup M (12 + 4 * a) 1 c) (12 + 4 * a) 2 p) (12 + 4 * a) 0 t) (12 + 4 * a) 5 h) (12 + 4 * a) 7 l) 3 9 ((a : Int) + 1)
def oOk (w : Nat → Int) (c : Int) : Bool := decide (c = -1) || inb c (w 1540)
def oSt (w : Nat → Int) (c : Int) : Bool := (decide (c = -1) || decide (w c.toNat = -1)) && decide (w 1540 < 10)
def oPl (c b : Int) : Int := if b = 0 then 0 else if c = -1 then 0 else 1
theorem cs_open {M : xM} {w : Nat → Int} (hR : R M w) (hC : IC w) (c b t h l : Int) : fX11_open 0 c b t h l M = if oOk w c then (if rg t 0 2 && (rg h 0 1000000 && rg l 0 1000000) then (if oSt w c then some (.inl (w 1540), mOp M (w 1540).toNat c (oPl c b) t h l) else some (.inr 2, M)) else some (.inr 1, M)) else some (.inr 0, M) := by
  have hb := hC.1
  have k77 : fX11_open_77 0 c b t h l 1 M = some (.inl (w 1540), mOp M (w 1540).toNat c (oPl c b) t h l) ∨ ¬ w 1540 < 10 := by
    by_cases z : w 1540 < 10
    · left
      obtain ⟨a, ha⟩ := ex_nat hb.1
      have ha2 : (w 1540).toNat = a := by omega
      unfold fX11_open_77 fX11_open_121 fX11_open_122
      rw [c_sta1, xb_l, xr_0_1, hR.nA, ha, c_acc (by omega), xb_l, Int.toNat_natCast, w32_i (by omega) (by omega)]
      simp only [xput_b]
      unfold mOp oPl
      by_cases z1 : b = 0
      · simp only [if_pos z1]; rfl
      · simp only [if_neg z1]
        by_cases z2 : c = -1
        · simp only [if_pos z2]; rfl
        · simp only [if_neg z2]; rfl
    · exact Or.inr z
  have k57 : ∀ p : Bool, fX11_open_57 0 c b t h l (bi p) M = if p && decide (w 1540 < 10) then some (.inl (w 1540), mOp M (w 1540).toNat c (oPl c b) t h l) else some (.inr 2, M) := fun p => by
    unfold fX11_open_57
    rw [c_sta]
    cases p
    · rfl
    · rw [if_t, xb_l, xr_0_1, hR.nA]
      by_cases z : 10 ≤ w 1540
      · rw [if_pos z, decide_eq_false (by omega)]
        unfold fX11_open_77
        rw [c_sta0, xb_r]; rfl
      · rw [if_neg z, decide_eq_true (by omega)]
        rcases k77 with k | k
        · rw [k]; rfl
        · exact absurd (by omega) k
  have k10 : oOk w c = true → fX11_open_10 0 c b t h l M = if rg t 0 2 && (rg h 0 1000000 && rg l 0 1000000) then (if oSt w c then some (.inl (w 1540), mOp M (w 1540).toNat c (oPl c b) t h l) else some (.inr 2, M)) else some (.inr 1, M) := fun ho => by
    unfold fX11_open_10 fX11_open_52
    rw [c_rng]
    cases rg t 0 2
    · rfl
    · rw [if_t, xb_l, c_rng]
      cases rg h 0 1000000
      · rfl
      · rw [if_t, xb_l, c_rng]
        cases rg l 0 1000000
        · rfl
        · rw [if_t, xb_l, show fX11_open_57 0 c b t h l 1 M = _ from k57 true]
          by_cases z : c = -1
          · rw [if_pos z]
            unfold oSt
            rw [decide_eq_true z]; rfl
          · rw [if_neg z]
            unfold oOk at ho
            rw [decide_eq_false z, Bool.false_or] at ho
            obtain ⟨a, rfl, ha⟩ := inb_t ho
            rw [xr_0_1, c_acc (by omega), xb_l, Int.toNat_natCast, hR.cust (by omega) ha, show fX11_open_57 0 (a : Int) b t h l 1 M = _ from k57 true, show fX11_open_57 0 (a : Int) b t h l 0 M = _ from k57 false]
            unfold oSt
            rw [decide_eq_false z, Bool.false_or, Int.toNat_natCast]
            by_cases z2 : w a = -1
            · rw [if_pos z2, decide_eq_true z2]; rfl
            · rw [if_neg z2, decide_eq_false z2]; rfl
  unfold fX11_open
  by_cases z : c = -1
  · have ho : oOk w c = true := by unfold oOk; rw [decide_eq_true z]; rfl
    rw [if_pos z, k10 ho, ho]; rfl
  · rw [if_neg z, c_needA hR]
    have ho : oOk w c = inb c (w 1540) := by unfold oOk; rw [decide_eq_false z, Bool.false_or]
    rw [← ho]
    cases q : oOk w c
    · rfl
    · rw [if_t, xb_l, k10 q]; rfl
theorem ms_open {M : xM} (hC : IC (M 401)) (hA : IA (M 401)) (c b t h l : Int) : fX12_open 400 c b t h l M = if oOk (M 401) c then (if rg t 0 2 && (rg h 0 1000000 && rg l 0 1000000) then (if oSt (M 401) c then some (.inl (M 401 1540), st M (wOp (M 401) (M 401 1540).toNat c (oPl c b) t h l) (M 403) 0) else some (.inl (-1), st M (M 401) (M 403) 3)) else some (.inl (-1), st M (M 401) (M 403) 2)) else some (.inl (-1), st M (M 401) (M 403) 1) := by
  have hb := hC.1
  have e : ∀ s : Int, 0 < s → fX12_open_139 400 c b t h l s 400 M = some (.inl (-1), st M (M 401) (M 403) s) := fun s hs => by
    unfold fX12_open_139
    rw [m_holds', xb_l, decide_eq_true hs, if_b0]; rfl
  have g : M 401 1540 < 10 → (c = -1 ∨ 0 ≤ c) → fX12_open_139 400 c b t h l 0 400 M = some (.inl (M 401 1540), st M (wOp (M 401) (M 401 1540).toNat c (oPl c b) t h l) (M 403) 0) := fun h10 hcc => by
    obtain ⟨a, ha⟩ := ex_nat hb.1
    unfold fX12_open_139 fX12_open_188 fX12_open_189
    rw [m_holds', xb_l, if_b0, if_d0, xr_400_0, st_401, xlet_b, ha, w32_i (by omega) (by omega)]
    simp (disch := omega) only [w32_i, xix_t, tn_add, Int.toNat_natCast, Int.reduceToNat, xlet_b, xput_b, st_w, st_401, ups_ne, w64_i, ha]
    unfold wOp oPl
    by_cases z1 : b = 0
    · simp only [if_pos z1]; rfl
    · simp only [if_neg z1]
      by_cases z2 : c = -1
      · simp only [if_pos z2, if_pos (show c < 0 by omega)]; rfl
      · simp only [if_neg z2, if_neg (show ¬ c < 0 by omega)]; rfl
  have k66 : ∀ p : Bool, oOk (M 401) c = true → fX12_open_66 400 c b t h l (bi p) 1 M = if p then (if oSt (M 401) c then some (.inl (M 401 1540), st M (wOp (M 401) (M 401 1540).toNat c (oPl c b) t h l) (M 403) 0) else some (.inl (-1), st M (M 401) (M 403) 3)) else some (.inl (-1), st M (M 401) (M 403) 2) := fun p ho => by
    unfold fX12_open_66 fX12_open_88 fX12_open_103 fX12_open_108
    rw [xr_400_0]
    simp only [e 1 (by omega), e 2 (by omega), e 3 (by omega), if_b0, if_neg (show ¬ (1 : Int) = 0 by decide), if_pos (show (0 : Int) = 0 from rfl)]
    unfold oSt oOk at *
    cases p
    · simp only [if_f, ite_self]
      by_cases z : c < 0
      · rw [if_pos z]
      · rw [if_neg z]
        rw [decide_eq_false (show ¬ c = -1 by omega), Bool.false_or] at ho
        obtain ⟨a, rfl, ha⟩ := inb_t ho
        rw [xix_t (by omega) (by omega)]
    · rw [if_t, if_t]
      by_cases z : c = -1
      · rw [if_pos (show c < 0 by omega), decide_eq_true z, Bool.true_or, Bool.true_and]
        by_cases z2 : M 401 1540 = 10
        · rw [if_pos z2, decide_eq_false (by omega)]; rfl
        · rw [if_neg z2, decide_eq_true (by omega), g (by omega) (Or.inl z)]; rfl
      · rw [decide_eq_false z, Bool.false_or] at ho
        obtain ⟨a, rfl, ha⟩ := inb_t ho
        have ka := (hA a (by omega)).2.2.2.2.2.1 ha
        rw [if_neg (show ¬ (a : Int) < 0 by omega), xix_t (by omega) (by omega), Int.toNat_natCast, decide_eq_false z, Bool.false_or]
        by_cases z3 : 0 ≤ M 401 a
        · rw [if_pos z3, decide_eq_false (by omega)]; rfl
        · rw [if_neg z3, decide_eq_true (by omega), Bool.true_and]
          by_cases z2 : M 401 1540 = 10
          · rw [if_pos z2, decide_eq_false (by omega)]; rfl
          · rw [if_neg z2, decide_eq_true (by omega), g (by omega) (Or.inr (by omega))]; rfl
  have k46 : ∀ p : Bool, fX12_open_46 400 c b t h l (bi p) M = if oOk (M 401) c then (if p then (if oSt (M 401) c then some (.inl (M 401 1540), st M (wOp (M 401) (M 401 1540).toNat c (oPl c b) t h l) (M 403) 0) else some (.inl (-1), st M (M 401) (M 403) 3)) else some (.inl (-1), st M (M 401) (M 403) 2)) else some (.inl (-1), st M (M 401) (M 403) 1) := fun p => by
    unfold fX12_open_46 fX12_open_61
    by_cases z : c = -1
    · have ho : oOk (M 401) c = true := by unfold oOk; rw [decide_eq_true z]; rfl
      rw [if_pos z, k66 p ho, ho]; rfl
    · have ho : oOk (M 401) c = inb c (M 401 1540) := by unfold oOk; rw [decide_eq_false z, Bool.false_or]
      rw [if_neg z, m_isA c M hC, xb_l, if_b0, ← ho]
      cases q : oOk (M 401) c
      · rw [if_f, if_f]
        unfold fX12_open_66 fX12_open_88 fX12_open_103 fX12_open_108
        simp only [if_pos (show (0 : Int) = 0 from rfl), e 1 (by omega), ite_self, if_true]
      · rw [if_t, if_t, k66 p q]
  unfold fX12_open fX12_open_45
  rw [m_rg, xb_l, if_b0, m_rg, xb_l, if_b0, m_rg, xb_l, if_b0, show (0 : Int) = bi false from rfl, show (1 : Int) = bi true from rfl, k46, k46]
  cases rg t (bi false) 2 <;> cases rg h (bi false) 1000000 <;> cases rg l (bi false) 1000000 <;> rfl
theorem op_open {M : xM} {n : Nat} (hr : Rel M n) {b : Int} (c t h l : Int) : OKc (fL_open 0 c b t h l 406 M) (fX12_open 400 c b t h l) (n + 1) := by
  obtain ⟨hR, hV, ⟨⟨hC, hA, hS, hH, hI, hT, hK, hL, hE⟩, hY, hM⟩, hO, -⟩ := id hr
  unfold fL_open
  have hc := cs_open hR hC c b t h l
  have hb := hC.1
  have hm : ∀ M2 : xM, M2 401 = M 401 → _ := fun M2 e1 => ms_open (M := M2) (by rw [e1]; exact hC) (by rw [e1]; exact hA) c b t h l
  cases q : oOk (M 401) c
  · rw [q, if_f] at hc
    exact ok_thr hr hr.stp hc rfl (by decide) (fun M2 e1 e3 _ _ => ⟨_, M2, by rw [hm M2 e1, e1, e3, q, if_f], gb.refl M2⟩)
  · rw [q, if_t] at hc
    cases q2 : rg t 0 2 && (rg h 0 1000000 && rg l 0 1000000)
    · rw [q2, if_f] at hc
      exact ok_thr hr hr.stp hc rfl (by decide) (fun M2 e1 e3 _ _ => ⟨_, M2, by rw [hm M2 e1, e1, e3, q, if_t, q2, if_f], gb.refl M2⟩)
    · rw [q2, if_t] at hc
      cases q3 : oSt (M 401) c
      · rw [q3, if_f] at hc
        exact ok_thr hr hr.stp hc rfl (by decide) (fun M2 e1 e3 _ _ => ⟨_, M2, by rw [hm M2 e1, e1, e3, q, if_t, q2, if_t, q3, if_f], gb.refl M2⟩)
      · rw [q3, if_t] at hc
        obtain ⟨a, ha⟩ := ex_nat hb.1
        have ea : (M 401 1540).toNat = a := by omega
        rw [ea] at hc
        have r1 := rg_t (and_tt q2).1
        have r2 := rg_t (and_tt (and_tt q2).2).1
        have r3 := rg_t (and_tt (and_tt q2).2).2
        have h10 : M 401 1540 < 10 := of_decide_eq_true (and_tt q3).2
        have hp : B01 (oPl c b) := by unfold oPl; split; exact Or.inl rfl; split; exact Or.inl rfl; exact Or.inr rfl
        have hcu : c = -1 ∨ (0 ≤ c ∧ c < M 401 1540 ∧ M 401 c.toNat = -1) := by
          unfold oOk at q
          unfold oSt at q3
          by_cases z : c = -1
          · exact Or.inl z
          · rw [decide_eq_false z, Bool.false_or] at q q3
            obtain ⟨d, rfl, hd⟩ := inb_t q
            exact Or.inr ⟨by omega, hd, of_decide_eq_true (and_tt q3).1⟩
        have hp1 : oPl c b = 1 → 0 ≤ c := fun z => by
          unfold oPl at z
          rcases hcu with k | k
          · rw [if_pos k, ite_self] at z; omega
          · exact k.1
        refine ok_ret hr (w1 := wOp (M 401) a c (oPl c b) t h l) (T1 := M 403) ⟨?_, ?_, tol (tol (tol (tol (tol (tol hO (by omega)) (by omega)) (by omega)) (by omega)) (by omega)) (by omega), ⟨⟨?_, ?_, hS.fr (fun j _ => by unfold wOp; simp (disch := omega) only [ups_ne]), ?_, ?_, hT.fr hC (fun j _ => by unfold wOp; simp (disch := omega) only [ups_ne]), hK.fr (fun j _ => by unfold wOp; simp (disch := omega) only [ups_ne]), ?_, hE.fr (fun j _ => by unfold wOp; simp (disch := omega) only [ups_ne])⟩, hY.fr (fun j _ => by unfold wOp; simp (disch := omega) only [ups_ne]), ?_⟩, frx (frx (frx (frx (frx (frx (fr0 M) (by omega)) (by omega)) (by omega)) (by omega)) (by omega)) (by omega)⟩ hc (fun M2 e1 e3 _ _ => ⟨M2, by rw [hm M2 e1, e1, e3, q, if_t, q2, if_t, q3, if_t, ea], gb.refl M2⟩)
        · refine (((((hR.cust_up (a := a) (by omega)).pool_up (by omega)).country_up (by omega)).cash_up (by omega)).line_up (by omega)).cntA (by omega) (by simp (disch := omega) only [ups_ne]; exact ha) ?_ rfl
          simp (disch := omega) only [xup_k, xup_same, ups_ne, ups_same]
        · exact (((((hV.up (by omega) (by omega) (by omega) (by omega) (by omega) (by omega) (by omega)).up (by omega) (by omega) (by omega) (by omega) (by omega) (by omega) (by omega)).up (by omega) (by omega) (by omega) (by omega) (by omega) (by omega) (by omega)).up (by omega) (by omega) (by omega) (by omega) (by omega) (by omega) (by omega)).up (by omega) (by omega) (by omega) (by omega) (by omega) (by omega) (by omega)).up (by omega) (by omega) (by omega) (by omega) (by omega) (by omega) (by omega)
        · unfold IC wOp
          simp (disch := omega) only [ups_ne, ups_same]
          exact ⟨by omega, hC.2⟩
        · intro d hd
          have kd := hA d hd
          unfold wOp
          by_cases z : d = a
          · subst z
            have k3 : oPl c b = 1 → (d : Int) < (d : Int) + 1 ∧ 0 ≤ c ∧ wOp (M 401) d c (oPl c b) t h l (10 + c.toNat) = 0 := fun z => by
              have hc0 := hp1 z
              rcases hcu with k | k
              · omega
              · refine ⟨by omega, hc0, ?_⟩
                unfold wOp
                have kc := hA c.toNat (by omega)
                simp (disch := omega) only [ups_ne]
                rcases kc.2.1 with k4 | k4
                · exact k4
                · have := kc.2.2.2.2.2.2 k4; omega
            unfold wOp at k3
            simp (disch := omega) only [ups_ne, ups_same] at k3 ⊢
            exact ⟨by omega, hp, kd.2.2.1, kd.2.2.2.1, by omega, fun _ => by omega, k3⟩
          · have k3 : M 401 (10 + d) = 1 → (d : Int) < (a : Int) + 1 ∧ 0 ≤ M 401 d ∧ wOp (M 401) a c (oPl c b) t h l (10 + (M 401 d).toNat) = 0 := fun z => by
              have k4 := kd.2.2.2.2.2.2 z
              have k5 := kd.2.2.2.2.2.1 k4.1
              refine ⟨by omega, k4.2.1, ?_⟩
              unfold wOp
              simp (disch := omega) only [ups_ne]; exact k4.2.2
            unfold wOp at k3
            simp (disch := omega) only [ups_ne, ups_same] at k3 ⊢
            exact ⟨kd.1, kd.2.1, kd.2.2.1, kd.2.2.2.1, kd.2.2.2.2.1, fun z => by have := kd.2.2.2.2.2.1 (by omega); omega, k3⟩
        · refine ⟨fun d s hd hs => ?_, fun s hs => ?_⟩
          · have kd := hH.1 d s hd hs
            unfold wOp
            simp (disch := omega) only [ups_ne, ups_same]
            exact ⟨kd.1, kd.2.1, fun z => kd.2.2.1 (by omega), kd.2.2.2⟩
          · unfold wOp
            rw [sm_eq (g := fun a => M 401 (100 + 4 * a + s)) 10 (fun b hb => by simp (disch := omega) only [ups_ne]), KQ_eq (w := M 401) (fun e he => by simp (disch := omega) only [ups_ne])]
            simp (disch := omega) only [ups_ne]; exact hH.2 s hs
        · exact hI.mono hC (fun j _ => by unfold wOp; simp (disch := omega) only [ups_ne]) (by unfold wOp; rw [ups_same]; omega) (by unfold wOp; simp (disch := omega) only [ups_ne]; exact Int.le_refl _)
        · exact hL.mono (fun j _ => by unfold wOp; simp (disch := omega) only [ups_ne]) (by unfold wOp; rw [ups_same]; omega) (by unfold wOp; simp (disch := omega) only [ups_ne]; exact Int.le_refl _)
        · intro d hd
          have kd := hM d hd
          unfold wOp
          by_cases z : d = a
          · subst z; simp (disch := omega) only [ups_ne, ups_same]; omega
          · simp (disch := omega) only [ups_ne]; omega
