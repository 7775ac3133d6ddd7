-- elect
theorem c_sta1 (M : xM) : fX11_needState 1 M = some (.inl 0, M) := rfl
theorem c_sta0 (M : xM) : fX11_needState 0 M = some (.inr 2, M) := rfl
theorem c_arg1 (M : xM) : fX11_needArgument 1 M = some (.inl 0, M) := rfl
theorem c_arg0 (M : xM) : fX11_needArgument 0 M = some (.inr 1, M) := rfl
theorem IE.elec {w : Nat → Int} (h : IE w) {e a : Nat} {u : Int} (he : e < 10) (ha : a < 10) (hn : w (1120 + e) ≠ 0) (h0 : 0 ≤ u) (h1 : u ≤ w (1140 + 10 * e + a)) : IE (ups w (1240 + 10 * e + a) u) := by
  intro d hd
  have k := h d hd
  have hK : KQ (ups w (1240 + 10 * e + a) u) = KQ w := KQ_eq (fun e he => ups_ne (by omega))
  have e1 : ∀ b : Nat, b < 10 → ups w (1240 + 10 * e + a) u (1140 + 10 * d + b) = w (1140 + 10 * d + b) := fun b hb => ups_ne (by omega)
  have e3 : ∀ t : Nat, t < 20 → ups w (1240 + 10 * e + a) u (1340 + 20 * d + t) = w (1340 + 20 * d + t) := fun t ht => ups_ne (by omega)
  obtain ⟨k1, k2, k3, k4, k5, k6, k7⟩ := k
  rw [ups_ne (i := 1050 + d) (by omega), ups_ne (i := 1060 + d) (by omega), ups_ne (i := 1070 + d) (by omega), ups_ne (i := 1080 + d) (by omega), ups_ne (i := 1090 + d) (by omega), ups_ne (i := 1100 + d) (by omega), ups_ne (i := 1110 + d) (by omega), ups_ne (i := 1120 + d) (by omega), ups_ne (i := 1130 + d) (by omega), ups_ne (i := 1541) (by omega), ups_ne (i := 1546) (by omega), hK]
  refine ⟨k1, k2, k3, k4, fun q => ⟨fun b hb => ?_, fun t ht => ?_⟩, fun b hb => ?_, fun t ht => ?_⟩
  · have hde : d ≠ e := fun z => hn (by rw [← z]; exact q)
    rw [e1 b hb, ups_ne (by omega)]; exact (k5 q).1 b hb
  · rw [e3 t ht]; exact (k5 q).2 t ht
  · rw [e1 b hb]
    have k6b := k6 b hb
    by_cases z : 1240 + 10 * d + b = 1240 + 10 * e + a
    · have e4 : 1140 + 10 * d + b = 1140 + 10 * e + a := by omega
      rw [z, ups_same, e4]; rw [e4] at k6b; exact ⟨h0, h1, k6b.2.2⟩
    · rw [ups_ne z]; exact k6b
  · rw [e3 t ht]; exact k7 t ht
def gEl (w : Nat → Int) (e : Nat) : Bool := decide (w (1050 + e) = 2) && (decide (w (1120 + e) ≠ 0) && decide (w (1130 + e) = 0))
theorem cs_elect {M : xM} {w : Nat → Int} (hR : R M w) (hC : IC w) (x y u : Int) : fX11_elect 0 x y u M = if inb x (w 1540) then (if inb y (w 1546) then (if decide (0 ≤ u) then (if gEl w y.toNat && decide (u ≤ w (1140 + 10 * y.toNat + x.toNat)) then some (.inl (w (1240 + 10 * y.toNat + x.toNat)), xup M (157 + 4 * y.toNat) x.toNat u) else some (.inr 2, M)) else some (.inr 1, M)) else some (.inr 0, M)) else some (.inr 0, M) := by
  unfold fX11_elect fX11_elect_19 fX11_elect_61 fX11_elect_62 fX11_elect_82
  rw [c_needA hR]
  have hb := hC.1
  have hn := hC.2.2.2.2.2.2.1
  cases q : inb x (w 1540)
  · rfl
  · rw [if_t, if_t, xb_l, c_needE hR]
    cases q2 : inb y (w 1546)
    · rfl
    · obtain ⟨a, rfl, ha⟩ := inb_t q
      obtain ⟨v, rfl, hv⟩ := inb_t q2
      rw [if_t, if_t, xb_l]
      by_cases z : u < 0
      · rw [if_pos z, decide_eq_false (by omega)]; rfl
      · rw [if_neg z, decide_eq_true (show 0 ≤ u by omega), if_t, c_arg1, xb_l, xr_0_1, c_evt (by omega), xb_l, Int.toNat_natCast, hR.ekin (by omega), hR.enot (by omega), hR.edon (by omega), Int.toNat_natCast, Int.toNat_natCast]
        simp only [c_sta0, c_sta1, xb_l, xb_r]
        unfold gEl fX4_entitledOf fX4_electedOf fX4_setElected
        by_cases z1 : w (1050 + v) = 2
        · rw [if_pos z1, decide_eq_true z1]
          by_cases z2 : w (1120 + v) = 0
          · rw [if_pos z2, decide_eq_false (not_not_intro z2)]; rfl
          · rw [if_neg z2, decide_eq_true z2]
            by_cases z3 : w (1130 + v) = 0
            · rw [if_pos z3, decide_eq_true z3, if_neg (show ¬ (a : Int) < 0 by omega), if_neg (show ¬ 10 ≤ (a : Int) by omega), xix_t (by omega) (by omega), xr_ent v (by omega), Int.toNat_natCast, hR.eent (by omega) (by omega)]
              show (xb (some (.inl (w (1140 + 10 * v + a)), M)) _) = _
              rw [xb_l]
              by_cases z4 : w (1140 + 10 * v + a) < u
              · rw [if_pos z4, decide_eq_false (by omega)]; rfl
              · rw [if_neg z4, decide_eq_true (show u ≤ w (1140 + 10 * v + a) by omega), if_neg (show ¬ (a : Int) < 0 by omega), if_neg (show ¬ 10 ≤ (a : Int) by omega), xix_t (by omega) (by omega), xr_ele v (by omega), hR.eele (by omega) (by omega)]
                show (xb (some (.inl (w (1240 + 10 * v + a)), M)) _) = _
                rw [xb_l, if_neg (show ¬ (a : Int) < 0 by omega), if_neg (show ¬ 10 ≤ (a : Int) by omega), xix_t (by omega) (by omega)]; rfl
            · rw [if_neg z3, decide_eq_false z3]; rfl
        · rw [if_neg z1, decide_eq_false z1]; rfl
theorem m_el101 {M : xM} {a v : Nat} (ha : a < 10) (hv : v < 10) (u : Int) (b : Bool) : fX12_elect_101 400 (a : Int) (v : Int) u 1 (bi b) M = if decide (0 ≤ u) then (if b then some (.inl (-1), st M (M 401) (M 403) 3) else some (.inl (M 401 (1240 + 10 * v + a)), st M (ups (M 401) (1240 + 10 * v + a) u) (M 403) 0)) else some (.inl (-1), st M (M 401) (M 403) 2) := by
  unfold fX12_elect_101 fX12_elect_131
  rw [if_neg (by decide), m_holds', xb_l, m_holds', xb_l, m_holds', xb_l, if_b0, if_b0, if_b0, if_d0]
  by_cases z : 0 ≤ u
  · rw [if_pos z, decide_eq_true z, if_t]
    cases b
    · rw [if_f, if_f, xr_400_0, st_401]
      simp (disch := omega) only [w32_i, xix_t, tn_add, tn_10, Int.toNat_natCast, Int.reduceToNat, xlet_b, xput_b, st_w]; rfl
    · rfl
  · rw [if_neg z, decide_eq_false z]; rfl
theorem ms_elect {M : xM} (hC : IC (M 401)) (hE : IE (M 401)) (x y u : Int) : fX12_elect 400 x y u M = if inb x (M 401 1540) then (if inb y (M 401 1546) then (if decide (0 ≤ u) then (if gEl (M 401) y.toNat && decide (u ≤ M 401 (1140 + 10 * y.toNat + x.toNat)) then some (.inl (M 401 (1240 + 10 * y.toNat + x.toNat)), st M (ups (M 401) (1240 + 10 * y.toNat + x.toNat) u) (M 403) 0) else some (.inl (-1), st M (M 401) (M 403) 3)) else some (.inl (-1), st M (M 401) (M 403) 2)) else some (.inl (-1), st M (M 401) (M 403) 1)) else some (.inl (-1), st M (M 401) (M 403) 1) := by
  unfold fX12_elect fX12_elect_20 fX12_elect_21 fX12_elect_96 fX12_elect_100
  rw [m_isA x M hC, xb_l, if_b0]
  have hb := hC.1
  have hn := hC.2.2.2.2.2.2.1
  have h0 : fX12_elect_101 400 x y u 0 0 M = some (.inl (-1), st M (M 401) (M 403) 1) := by
    unfold fX12_elect_101 fX12_elect_131
    rw [if_pos rfl, m_holds', xb_l]; rfl
  cases q : inb x (M 401 1540)
  · rw [if_f, if_f, if_pos rfl, h0]
  · rw [if_t, if_t, m_isE y M hC, xb_l, if_b0]
    cases q2 : inb y (M 401 1546)
    · rw [if_f, if_f, if_pos rfl, h0]
    · obtain ⟨a, rfl, ha⟩ := inb_t q
      obtain ⟨v, rfl, hv⟩ := inb_t q2
      have kd := (hE v (by omega)).2.2.2.1
      have g1 := m_el101 (M := M) (a := a) (v := v) (by omega) (by omega) u true
      have g0 := m_el101 (M := M) (a := a) (v := v) (by omega) (by omega) u false
      rw [if_t] at g1
      rw [if_f] at g0
      rw [if_t, if_t, if_neg (by decide), xr_400_0, Int.toNat_natCast, Int.toNat_natCast, show fX12_elect_101 400 (a : Int) (v : Int) u 1 1 M = _ from g1, show fX12_elect_101 400 (a : Int) (v : Int) u 1 0 M = _ from g0]
      simp (disch := omega) only [w32_i, xix_t, tn_add, tn_10, Int.toNat_natCast, Int.reduceToNat]
      unfold gEl
      cases decide (0 ≤ u)
      · rw [if_f, if_f, if_f]
        split <;> (try split) <;> (try split) <;> (try split) <;> rfl
      · rw [if_t, if_t, if_t]
        by_cases z1 : M 401 (1050 + v) = 2
        · rw [if_pos z1, decide_eq_true z1]
          by_cases z2 : M 401 (1120 + v) = 0
          · rw [if_pos z2, decide_eq_false (not_not_intro z2)]; rfl
          · rw [if_neg z2, decide_eq_true z2]
            rcases kd with z3 | z3
            · rw [if_neg (by omega), decide_eq_true z3]
              by_cases z4 : u ≤ M 401 (1140 + 10 * v + a)
              · rw [if_pos z4, decide_eq_true z4]; rfl
              · rw [if_neg z4, decide_eq_false z4]; rfl
            · rw [if_pos z3, decide_eq_false (by omega)]; rfl
        · rw [if_neg z1, decide_eq_false z1]; rfl
-- bring
theorem xup_xup {M : xM} {c k : Nat} {v u : Int} : xup (xup M c k v) c k u = xup M c k u := by
  funext a b; unfold xup; split <;> rfl
def wBr (w : Nat → Int) (a : Nat) (u : Int) : Nat → Int := ups w (30 + a) (w64 (w (30 + a) + u))
def gBr (w : Nat → Int) (a : Nat) (u : Int) : Bool := decide (0 ≤ u) || sSnd (wBr w a u) a
theorem cs_bring {M : xM} {w : Nat → Int} (hR : R M w) (hC : IC w) (hS : IS w) (hH : IH w) {N : Int} (hM : IM N w) (hN : N ≤ 4000000000000000000) (x u : Int) : fX11_bring 0 x u M = if inb x (w 1540) then (if rg u (-1000000) 1000000 then (if gBr w x.toNat u then some (.inl (w64 (w (30 + x.toNat) + u)), xup M (12 + 4 * x.toNat) 5 (w64 (w (30 + x.toNat) + u))) else some (.inr 2, M)) else some (.inr 1, M)) else some (.inr 0, M) := by
  unfold fX11_bring fX11_bring_48 fX11_bring_53 fX11_bring_71
  rw [c_needA hR]
  have hb0 := hC.1
  have hn := hC.2.1
  cases q : inb x (w 1540)
  · rfl
  · rw [if_t, if_t, xb_l, c_rng]
    cases q2 : rg u (-1000000) 1000000
    · rfl
    · obtain ⟨a, rfl, ha⟩ := inb_t q
      have hu := rg_t q2
      have hm := hM a (by omega)
      have hR2 : R (xup M (12 + 4 * a) 5 (w64 (w (30 + a) + u))) (wBr w a u) := hR.cash_up (by omega)
      have hh : hb (wBr w a u) a := Inv0.hb (hS.fr (fun j _ => ups_ne (by omega))) (hH.fr (fun j _ => ups_ne (by omega))) (by omega)
      have hf := c_firm hR2 (a := a) (by omega) (by unfold wBr; rw [ups_ne (by omega)]; exact hn.1) (by unfold wBr; rw [ups_ne (by omega)]; exact hn.2) hh
      rw [if_t, if_t, xb_l, xr_0_1, c_acc (by omega), xb_l, Int.toNat_natCast, Int.toNat_natCast, hR.cash (by omega), xput_b, if_neg (show ¬ (1 : Int) = 0 by decide), hf, xb_l, if_b0, if_pos (show (0 : Int) = 0 from rfl)]
      simp only [c_sta0, c_sta1, xb_l, xb_r]
      unfold gBr
      by_cases z : 0 ≤ u
      · rw [if_pos z, decide_eq_true z, xup_same]; rfl
      · rw [if_neg z, decide_eq_false z, Bool.false_or]
        cases sSnd (wBr w a u) a
        · rw [if_f, if_f, xput_b, xup_same, xup_xup]
          have e : w64 (w64 (w (30 + a) + u) - u) = w (30 + a) := by
            rw [w64_i (x := w (30 + a) + u) (by omega) (by omega), w64_i (by omega) (by omega)]; omega
          rw [e, ← hR.cash (show a < 10 by omega), xup_self]
        · rw [if_t, if_t, xup_same]; rfl
theorem m_br142 (x s : Int) (M : xM) : fX12_bring_142 400 x s 400 M = if decide (0 < s) then some (.inl (-1), st M (M 401) (M 403) s) else xix (w32 (30 + x)) 1550 (xret (M 401 (w32 (30 + x)).toNat) (st M (M 401) (M 403) s)) := by
  unfold fX12_bring_142
  rw [m_holds', xb_l, if_b0]
  cases decide (0 < s)
  · rw [if_f, if_f, xr_400_0, st_401]
  · rw [if_t, if_t]; rfl
theorem st_st {M : xM} {w w2 T T2 : Nat → Int} {h h2 : Int} : st (st M w T h) w2 T2 h2 = st M w2 T2 h2 := by
  funext c k; unfold st
  by_cases h1 : c = 401
  · simp [h1]
  · by_cases h3 : c = 403
    · simp [h3]
    · by_cases h0 : c = 400
      · subst h0
        by_cases h7 : k = 7 <;> simp [h7]
      · simp [h1, h3, h0]
theorem up401 {M : xM} {j : Nat} {v : Int} : xup M 401 j v = st M (ups (M 401) j v) (M 403) (M 400 7) := by
  have := st_w (M := M) (w := M 401) (T := M 403) (h := M 400 7) (j := j) (v := v)
  rw [st_id] at this; exact this
theorem st_self {M : xM} {h : Int} : st M (M 401) (M 403) h = st M (M 401) (M 403) h := rfl
theorem ms_bring {M : xM} (hC : IC (M 401)) {N : Int} (hM : IM N (M 401)) (hN : N ≤ 4000000000000000000) (x u : Int) : fX12_bring 400 x u M = if inb x (M 401 1540) then (if rg u (-1000000) 1000000 then (if gBr (M 401) x.toNat u then some (.inl (w64 (M 401 (30 + x.toNat) + u)), st M (wBr (M 401) x.toNat u) (M 403) 0) else some (.inl (-1), st M (M 401) (M 403) 3)) else some (.inl (-1), st M (M 401) (M 403) 2)) else some (.inl (-1), st M (M 401) (M 403) 1) := by
  have hb0 := hC.1
  have hn := hC.2.1
  have e0 : ∀ a : Nat, a < 10 → ups (M 401) (30 + a) (w64 (M 401 (30 + a) + 0)) = M 401 := fun a ha => by have := hM a ha; rw [Int.add_zero, w64_i (by omega) (by omega), ups_self]
  have e1 : ∀ a : Nat, a < 10 → ups (M 401) (30 + a) (w64 (M 401 (30 + a) - 0)) = M 401 := fun a ha => by have := hM a ha; rw [Int.sub_zero, w64_i (by omega) (by omega), ups_self]
  unfold fX12_bring
  rw [m_isA x M hC, xb_l, m_rg, xb_l, if_b0]
  unfold fX12_bring_35 fX12_bring_52 fX12_bring_53
  rw [xr_400_0, if_b0]
  cases q : inb x (M 401 1540)
  · rw [if_f, if_f]
    have e30 : (w32 (30 + 0)).toNat = 30 + 0 := by decide
    simp (disch := omega) only [xix_t, w32_i]
    have e30 : ((30 : Int) + 0).toNat = 30 + 0 := by decide
    rw [e30, xput_b, up401, e0 0 (by omega), show bi false = 0 from rfl, if_pos rfl]
    unfold fX12_bring_80 fX12_bring_81
    rw [if_pos rfl]
    unfold fX12_bring_98
    rw [if_pos rfl]
    unfold fX12_bring_112
    simp (disch := omega) only [xix_t, w32_i, xr_400_0, ↓reduceIte]
    rw [e30, xput_b, st_401, st_w, e1 0 (by omega), m_br142, if_pos (by decide), st_401, st_403, st_st]
  · obtain ⟨a, rfl, ha⟩ := inb_t q
    have e30 : ((30 : Int) + (a : Int)).toNat = 30 + a := by omega
    rw [if_t, if_t, if_b0, show bi true = 1 from rfl, Int.toNat_natCast]
    simp (disch := omega) only [xix_t, w32_i, if_neg (show ¬ (1 : Int) = 0 by decide)]
    rw [e30]
    cases q2 : rg u (-1000000) 1000000
    · rw [if_f, if_f, xput_b, up401, e0 a (by omega), show bi false = 0 from rfl, if_pos rfl]
      unfold fX12_bring_80 fX12_bring_81
      rw [if_neg (by decide)]
      unfold fX12_bring_98
      rw [if_pos rfl]
      unfold fX12_bring_112
      simp (disch := omega) only [xix_t, w32_i, xr_400_0, ↓reduceIte]
      rw [e30, xput_b, st_401, st_w, e1 a (by omega), if_neg (by decide), m_br142, if_pos (by decide), st_401, st_403, st_st]
    · have hu := rg_t q2
      have hm := hM a (by omega)
      rw [if_t, if_t, xput_b, up401, show bi true = 1 from rfl, if_neg (by decide)]
      have ew : ups (M 401) (30 + a) (w64 (M 401 (30 + a) + u)) = wBr (M 401) a u := rfl
      have ev : wBr (M 401) a u (30 + a) = w64 (M 401 (30 + a) + u) := ups_same
      rw [ew]
      have hs := m_snd (M := st M (wBr (M 401) a u) (M 403) (M 400 7)) (a := a) (by omega) (by rw [st_401]; unfold wBr; rw [ups_ne (by omega)]; exact hn.1) (by rw [st_401]; unfold wBr; rw [ups_ne (by omega)]; exact hn.2)
      rw [st_401] at hs
      rw [hs, xb_l, if_b0]
      unfold fX12_bring_80 fX12_bring_81
      rw [if_neg (show ¬ (1 : Int) = 0 by decide), if_neg (show ¬ (1 : Int) = 0 by decide)]
      unfold fX12_bring_98
      rw [if_pos (show (0 : Int) = 0 from rfl), if_neg (show ¬ (1 : Int) = 0 by decide)]
      have good : fX12_bring_112 400 (a : Int) 1 1 0 0 (st M (wBr (M 401) a u) (M 403) (M 400 7) 401 (w32 (30 + (a : Int))).toNat) (w32 (30 + (a : Int))) 401 (st M (wBr (M 401) a u) (M 403) (M 400 7)) = some (.inl (w64 (M 401 (30 + a) + u)), st M (wBr (M 401) a u) (M 403) 0) := by
        unfold fX12_bring_112
        simp (disch := omega) only [xix_t, w32_i, xr_400_0, ↓reduceIte]
        rw [e30, xput_b, st_401, st_w, ev, Int.sub_zero, w64_i (x := w64 (M 401 (30 + a) + u)) (w64_r _).1 (w64_r _).2, if_neg (by decide), if_neg (by decide), m_br142, if_neg (by decide), st_401, st_403, st_st]
        simp (disch := omega) only [xix_t, w32_i]
        rw [e30, ups_same, ← ev, ups_self]; rfl
      have bad : fX12_bring_112 400 (a : Int) 1 1 1 u (st M (wBr (M 401) a u) (M 403) (M 400 7) 401 (w32 (30 + (a : Int))).toNat) (w32 (30 + (a : Int))) 401 (st M (wBr (M 401) a u) (M 403) (M 400 7)) = some (.inl (-1), st M (M 401) (M 403) 3) := by
        unfold fX12_bring_112
        simp (disch := omega) only [xix_t, w32_i]
        rw [e30, xput_b, st_401, st_w, ev, if_neg (by decide), if_neg (by decide), if_neg (by decide), m_br142, if_pos (by decide), st_401, st_403, st_st]
        have e : w64 (w64 (M 401 (30 + a) + u) - u) = M 401 (30 + a) := by
          rw [w64_i (x := M 401 (30 + a) + u) (by omega) (by omega), w64_i (by omega) (by omega)]; omega
        unfold wBr
        rw [e, ups_ups, ups_self]
      rw [xix_t (by rw [w32_i (by omega) (by omega)]; omega) (by rw [w32_i (by omega) (by omega)]; omega), xr_400_0, good, bad]
      simp (disch := omega) only [xix_t, w32_i, ↓reduceIte]
      unfold gBr
      by_cases z : 0 ≤ u
      · rw [if_pos z, decide_eq_true z]; rfl
      · rw [if_neg z, decide_eq_false z, Bool.false_or]
