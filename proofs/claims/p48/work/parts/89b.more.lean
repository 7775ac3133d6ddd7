/-! the rest of the class's calls -/
def FRc (M M1 : xM) : Prop := ∀ c, (c = 0 ∨ (199 ≤ c ∧ c < 395) ∨ 400 ≤ c) → M1 c = M c
def Zw (w : Nat → Int) : xM := fun c => if c = 401 then w else fun _ => 0
/-- the worth of the best set -/
def bv (w : Nat → Int) : Int := match fX12_best 400 (Zw w) with | some (.inl v, _) => v | _ => 0
theorem Cx.fh {M M' : xM} {w T : Nat → Int} {n : Nat} (h : Cx M w T n) (hR : R M' w) (f : fh M M') : Cx M' w T n :=
  have s := SS.fh ⟨h.1, h.2.1, h.2.2.2.1⟩ hR f
  ⟨s.1, s.2.1, h.2.2.1, s.2.2, fun t ht => by rw [f (298 + t) (by omega) (by omega) (by omega) (by omega)]; exact h.2.2.2.2 t ht⟩
theorem kop_best {M : xM} {w T : Nat → Int} {n : Nat} (hr : Cx M w T n) (hn5 : n ≤ 500) : ∃ M1, fX11_best 0 M = some (.inl (bv w), M1) ∧ Cx M1 w T n ∧ FRc M M1 := by
  obtain ⟨hR, hV, ⟨h0, hY, hM⟩, hO, -⟩ := id hr
  have hQ := h0.cq hM (by omega)
  obtain ⟨nT, hn⟩ := ex_nat h0.1.2.2.2.1.1
  obtain ⟨M1, c, m, r, a1, a2, a3, a4, a5, a6, a7, a8⟩ := c_best hR h0 hQ h0.rk hn
  obtain ⟨M3, b, b1, b2, b3⟩ := m_best (M := Zw w) (T := fun _ => 0) h0 hQ hn a2 rfl rfl
  rw [← b3.eq a7] at b1
  have hb : bv w = Wf w c (min m 10) r := by unfold bv; rw [b1]
  exact ⟨M1, by unfold fX11_best; rw [xr_0_3, a1, xb_l, hb]; rfl, hr.fh a3 a8, fun x hx => a8 x (by omega) (by omega) (by omega) (by omega)⟩
theorem kop_bestByAll {M : xM} {w T : Nat → Int} {n : Nat} (hr : Cx M w T n) (hn5 : n ≤ 500) : ∃ M1, fX11_bestByAll 0 M = some (.inl (bv w), M1) ∧ Cx M1 w T n ∧ FRc M M1 := by
  obtain ⟨hR, hV, ⟨h0, hY, hM⟩, hO, -⟩ := id hr
  have hQ := h0.cq hM (by omega)
  obtain ⟨nT, hn⟩ := ex_nat h0.1.2.2.2.1.1
  obtain ⟨M1, c, m, r, a1, a2, a3, a4, a5⟩ := c_bestAll hR h0 hQ h0.rk hn
  obtain ⟨hc, hB⟩ := h0.bw hn a2
  obtain ⟨M3, b, b1, b2, b3⟩ := m_best (M := Zw w) (T := fun _ => 0) h0 hQ hn a2 rfl rfl
  rw [← a4.eq b3 (OW.mk hB hc.1).1] at b1
  have hb : bv w = Wf w c (min m 10) r := by unfold bv; rw [b1]
  exact ⟨M1, by unfold fX11_bestByAll; rw [xr_0_3, a1, xb_l, hb]; rfl, hr.fh a3 a5, fun x hx => a5 x (by omega) (by omega) (by omega) (by omega)⟩
theorem DA_c0 {w : Nat → Int} {c : Nat → Nat} {f : Nat → Bool} {n : Nat} (hn : n ≤ 10) : ∀ q, (∀ k, k < q → TF w (c k) ∧ dl w (c k) < n ∧ rc w (c k) < n) → sm (fun a => DA w c f q (30 + a)) n = 0
  | 0, _ => sm_0 n (fun _ _ => rfl)
  | q + 1, h => by
    have e : ∀ j, DA w c f (q + 1) j = DA w c f q j + (if f q then dT w (c q) (w (770 + c q)) (w (790 + c q)) j else 0) := fun j => rfl
    obtain ⟨ft, h1, h2⟩ := h q (by omega)
    rw [sm_eq (g := fun a => DA w c f q (30 + a) + (if f q then dT w (c q) (w (770 + c q)) (w (790 + c q)) (30 + a) else 0)) n (fun a _ => e _), sm_add (fun a => DA w c f q (30 + a)) (fun a => if f q then dT w (c q) (w (770 + c q)) (w (790 + c q)) (30 + a) else 0), DA_c0 hn q (fun k hk => h k (by omega))]
    cases z : f q
    · show 0 + sm (fun _ => (0 : Int)) n = 0
      rw [sm_0 n (fun _ _ => rfl)]; rfl
    · have := dT_sum (w := w) (t := c q) ft (u := w (770 + c q)) (v := w (790 + c q)) h1 h2 hn
      show 0 + sm (fun a => dT w (c q) (w (770 + c q)) (w (790 + c q)) (30 + a)) n = 0
      rw [this]; rfl
/-- what a cycle leaves as it was -/
def cyQ (w w1 : Nat → Int) : Prop := QC w w1 ∧ ∀ j, (j < 10 ∨ (80 ≤ j ∧ j < 90) ∨ (650 ≤ j ∧ j < 690) ∨ (730 ≤ j ∧ j < 770) ∨ (1130 ≤ j ∧ j < 1140) ∨ (1540 ≤ j ∧ j < 1544) ∨ j = 1546 ∨ j = 1547) → w1 j = w j
theorem kop_cycle {M : xM} {w T : Nat → Int} {n : Nat} (hr : Cx M w T n) (hn5 : n ≤ 500) : ∃ (v : Int) (M1 : xM) (w1 T1 : Nat → Int), fX11_cycle 0 M = some (.inl v, M1) ∧ Sk M M1 w1 T1 n ∧ 0 ≤ v ∧ cyQ w w1 := by
  obtain ⟨hR, hV, ⟨h0, hY, hM⟩, hO, -⟩ := id hr
  have c5 := h0.1.2.2.2.2.2.1
  have h10 := h0.1.1
  obtain ⟨nL, hnL⟩ := ex_nat c5.1
  obtain ⟨M1, w1, a1, a2, a3, a4, a5, -, a7⟩ := gbs nL 0 M w T ((n : Int) * 7000000000000000) (by omega) ⟨hR, hV, hO⟩ h0 hM (by omega) (by omega)
  have hQ := a4.cq a5 (by omega)
  obtain ⟨nT, hn⟩ := ex_nat a4.1.2.2.2.1.1
  obtain ⟨M2, c, m, r, b1, b2, b3, b4, b5, b6, b7, b8⟩ := c_best a2.1 a4 hQ a4.rk hn
  obtain ⟨hc, hB⟩ := a4.bw hn b2
  have S2 : SS M2 w1 T := a2.fh b3 b8
  generalize hq0 : min m 10 = q at *
  have hq := hc.1
  have hmay : r = e0 ∨ may w1 c q r = true := by
    rcases b7.1.2 with z | z
    · exact Or.inl z
    · exact Or.inr z.1
  have i0 : Inv0 (wA w1 (DA w1 c r q)) := a4.setl hc hB hmay
  have m0 := a5.setl (by omega) (by omega) hB hq (f := r) (c := c)
  have e0x : EX w1 c q r (wA w1 (DA w1 c r q)) 0 := ⟨i0, fun _ _ => rfl, fun k _ hk => by
    have := (hB.1 k hk).1.1
    rw [wA_n (by omega)]; exact (hc.2.1 k hk).2⟩
  have em0 : mix w1 c r (wA w1 (DA w1 c r q)) 0 = w1 := by
    funext j
    cases z : cel j
    · rw [mix_n z]; unfold wA; rw [z, if_f]
    · rw [mix_c z, show wA w1 (DA w1 c r 0) = w1 from wA_0 hQ (fun j => rfl)]
  obtain ⟨M3, x3, T3, d1, d2, d3, d4, d6, -⟩ := setls hc hB a4.pg q 0 M2 (wA w1 (DA w1 c r q)) T (by omega) (by rw [em0]; exact S2) ⟨b6, b5, b4⟩ e0x (fun i hi _ => wA_n (by omega))
  have em3 : mix w1 c r x3 q = x3 := by
    funext j
    cases z : cel j
    · exact mix_n z
    · rw [mix_c z]
      have := cel_lt z
      exact (d4.2.1 j (by omega)).symm
  rw [em3] at d2
  have m3 : IM ((n : Int) * 7000000000000000 + (nL : Int) * 60000000000000 + 1000000000) x3 := m0.fr (fun j x y => d4.2.1 j (by omega))
  have cf3 : CF M3 c q := CF.z ⟨b5, b4⟩ d3
  have ct3 : ∀ k, k < q → (c k : Int) < x3 1543 := fun k hk => by rw [d4.far (by omega)]; exact (hc.2.1 k hk).1
  obtain ⟨M4, x4, T4, dd, gd, g1, g2, g3, g4, g5, -, g7, g8⟩ := loans hq q 0 M3 x3 T3 _ (by omega) d2 d4.1 m3 (by omega) (by omega) cf3 ct3
  obtain ⟨M5, x5, T5, k1, k2, k3, k4, k5, -, k7, k8⟩ := parts hq q 0 M4 x4 T4 _ (by omega) g2 g4 g5 (by omega) (by omega) (cf3.l g3) (fun k hk => by rw [g7 1543 (by omega)]; exact ct3 k hk)
  have cb := Cf_b hq r
  have far : ∀ j, (j < 10 ∨ (80 ≤ j ∧ j < 90) ∨ (650 ≤ j ∧ j < 690) ∨ (730 ≤ j ∧ j < 770) ∨ (1100 ≤ j ∧ j < 1140) ∨ (1540 ≤ j ∧ j < 1544) ∨ j = 1546 ∨ j = 1547) → x5 j = w j := fun j hj => by
    rw [k7 j (by omega), g7 j (by omega), d4.far (by omega), a7 j (by omega)]
  have q1 : QC w w1 := ⟨fun N hN => by rw [sm_eq (g := fun a => w (30 + a)) N (fun a ha => a7 _ (by omega))], fun i hi _ => a7 _ (by omega)⟩
  have q2 : QC w1 x3 := ⟨cse_wA (D := DA w1 c r q) (fun N hN => DA_c0 (by have := a4.1.1; omega) q (fun k hk => by
      have ft := (hB.1 k hk).1
      have := a4.at (c k) (hc.2.1 k hk).1
      exact ⟨ft, by omega, by omega⟩)) a4.1.1.2 (fun a ha => d4.2.1 _ (by omega)), d6⟩
  have qq : QC w x5 := ((q1.trans q2 (a7 _ (by omega)) (fun i hi => a7 _ (by omega))).trans g8 (by rw [d4.far (by omega), a7 _ (by omega)]) (fun i hi => by rw [d4.2.1 _ (by omega), wA_n (by omega), a7 _ (by omega)])).trans k8 (by rw [g7 _ (by omega), d4.far (by omega), a7 _ (by omega)]) (fun i hi => by rw [g7 _ (by omega), d4.2.1 _ (by omega), wA_n (by omega), a7 _ (by omega)])
  refine ⟨Cf q r + dd, M5, x5, T5, ?_, ⟨k2.1, k2.2.1, k2.2.2, ⟨k4, hY.fr (fun j hj => far j (by omega)), k5.mono (by omega)⟩, fun x hx => ?_⟩, by omega, qq, fun j hj => far j (by omega)⟩
  · have l1 := g1 xN 0 (by unfold xN; omega) (by omega) (by omega)
    rw [show (0 : Int) + dd = dd by omega] at l1
    unfold fX11_cycle fX2_giveLoansBack fX2_settleBestSet fX2_settleByLoans fX2_settleInPart
    rw [xr_0_3, show fX2_giveLoansBack_2 395 xN 0 M = _ from a1 xN (by unfold xN; omega), xb_l, b1, xb_l, show fX2_settleBestSet_2 395 xN 0 M2 = _ from d1 xN (by unfold xN; omega), xb_l, show fX2_settleByLoans_4 395 xN 0 0 M3 = _ from l1, xb_l, xlet_b, show fX2_settleInPart_2 395 xN 0 M4 = _ from k1 xN (by unfold xN; omega), xb_l, w32_i (by omega) (by omega)]; rfl
  · rw [k3 x (by omega), g3 x (by omega) (by omega), d3 x (by omega), b8 x (by omega) (by omega) (by omega) (by omega), a3 x (by omega)]
theorem kop_endDay {M : xM} {w T : Nat → Int} {n : Nat} (hr : Cx M w T n) (hn5 : n ≤ 500) (hq : w 1547 < 2000) : ∃ (v : Int) (M1 : xM) (w1 T1 : Nat → Int), fX11_endDay 0 M = some (.inl v, M1) ∧ Sk M M1 w1 T1 n ∧ 0 ≤ v ∧ QD w w1 ∧ w1 1547 = w 1547 + 1 := by
  obtain ⟨hR, hV, ⟨h0, hY, hM⟩, hO, -⟩ := id hr
  have hC := h0.1
  have c7 := hC.2.2.2.2.2.2.2
  have c6 := hC.2.2.2.2.2.2.1
  obtain ⟨nE, hnE⟩ := ex_nat c6.1
  obtain ⟨M1, w1, T1, a1, a2, a3, a4, a5, a6, -, a8, a9, aq⟩ := turns nE 0 M w T ((n : Int) * 7000000000000000) (by omega) ⟨hR, hV, hO⟩ h0 (by exact hY) hM (by omega) (by omega)
  have d1 := a4.1
  have d3 := d1.2.2.2.1
  have d5 := d1.2.2.2.2.2.1
  obtain ⟨nT, hnT⟩ := ex_nat d3.1
  obtain ⟨nL, hnL⟩ := ex_nat d5.1
  have hL1 := a4.lt
  have hH1 := a4.2.2.2.2.1.hf
  obtain ⟨M2, b1, b2, b3⟩ := c_lFT nT 0 xN M1 w1 T1 0 (by omega) (by unfold xN; omega) a2 hL1 hH1 (by omega) (by omega)
  obtain ⟨f1, f2⟩ := lFT_L nT 0 w1 T1 0 hL1 (by omega) a6.rng
  have x1 := lFT_x nT 0 w1 T1 0
  have q1 := lFT_qd nT 0 w1 T1 0 hL1 a4.at (by omega)
  generalize lFT nT 0 w1 T1 0 = P at *
  have i2 : Inv0 P.1.1 := a4.pm f1.pm
  have n45 : P.1.1 1545 = (nL : Int) := by rw [f1 1545 (by omega)]; exact hnL
  obtain ⟨M3, g1, g2, g3⟩ := c_lFL nL 0 xN M2 P.1.1 P.1.2 0 (by omega) (by unfold xN; omega) b2 i2.1 i2.2.2.2.2.2.2.2.1 (by omega) (by omega)
  obtain ⟨f3, f4⟩ := lFL_L nL 0 P.1.1 P.1.2 0 i2.1 i2.2.2.2.2.2.2.2.1 (by omega) f2
  have x2 := lFL_x nL 0 P.1.1 P.1.2 0
  have q2 := lFL_qd nL 0 P.1.1 P.1.2 0 i2.1 i2.2.2.2.2.2.2.2.1 (by omega)
  generalize lFL nL 0 P.1.1 P.1.2 0 = Q at *
  have i3 : Inv0 Q.1.1 := i2.pm f3.pm
  have n47 : Q.1.1 1547 = w 1547 := by rw [f3 1547 (by omega), f1 1547 (by omega), a9]
  have n43 : Q.1.1 1543 = (nT : Int) := by rw [f3 1543 (by omega), f1 1543 (by omega)]; exact hnT
  have hG : GI Q.1.1 0 := ⟨i3.day (by omega), by omega, fun u hu _ hc => by
    have := ((i3.2.2.2.2.2.1 u hu).1 hc).2.2.2.2.2.2.2.2.1
    exact this⟩
  obtain ⟨M4, k1, k2, k3⟩ := c_lGr nT 0 xN M3 Q.1.1 Q.1.2 (by omega) (by unfold xN; omega) g2 hG
  obtain ⟨r1, r2, r3⟩ := lGr_i nT 0 Q.1.1 Q.1.2 (by omega) hG f4
  have q3 := lGr_qd nT 0 Q.1.1 Q.1.2 (by omega) hG i3.at
  generalize lGr nT 0 Q.1.1 Q.1.2 = U at *
  have u47 : U.1 1547 = w 1547 := by rw [r3 1547 (by omega)]; exact n47
  have iU := r1.1
  rw [u47] at iU
  have far : ∀ j, (30 ≤ j ∧ j < 50) ∨ (1050 ≤ j ∧ j < 1540) ∨ j = 1546 → U.1 j = w1 j := fun j hj => by rw [r3 j (by omega), f3 j (by omega), f1 j (by omega)]
  have hF : fX11_endDay 0 M = some (.inl (P.2 + Q.2), xup M4 3 16 (w 1547 + 1)) := by
    unfold fX11_endDay fX11_endDay_18
    rw [xr_0_1, hR.day, if_neg (by omega), c_sta1, xb_l, xr_0_4]
    unfold fX3_takeTurns fX3_tellFinesOfTrades fX3_tellFinesOfLoans fX3_growOlder
    rw [show fX3_takeTurns_2 399 xN 0 M = _ from a1 xN (by unfold xN; omega), xb_l, show fX3_tellFinesOfTrades_4 399 xN 0 0 M1 = _ from b1, xb_l, show fX3_tellFinesOfLoans_4 399 xN 0 0 M2 = _ from g1, xb_l, xlet_b, show fX3_growOlder_2 399 xN 0 M3 = _ from k1, xb_l, xput_b, k2.1.day, u47, w32_i (by omega) (by omega), w32_i (by omega) (by omega)]; rfl
  refine ⟨P.2 + Q.2, _, ups U.1 1547 (w 1547 + 1), U.2, hF, ⟨k2.1.day_up, k2.2.1.up (by omega) (by omega) (by omega) (by omega) (by omega) (by omega) (by omega), k2.2.2.c (by omega), ⟨iU, fun e he hc => ?_, ?_⟩, fun c hc => ?_⟩, by omega, ?_, ups_same⟩
  · rw [ups_ne (by omega), far _ (by omega), a8] at hc
    have y := a5 e he (by rw [a8]; exact hc)
    rw [ups_same, ups_ne (by omega), ups_ne (by omega), ups_ne (by omega), ups_ne (by omega), far _ (by omega), far _ (by omega), far _ (by omega), far _ (by omega)]
    rw [a9] at y
    exact ⟨by rw [y.1]; omega, by rw [y.2]; omega⟩
  · have : IM (((n + 1 : Nat) : Int) * 7000000000000000) U.1 := (a6.led (fun j x y => far j (by omega)) r2).mono (by omega)
    exact this.fr (fun j _ _ => ups_ne (by omega))
  · have z := ((a3.trans b3).trans g3).trans k3
    rw [xup_row (by omega)]; exact z c (by omega)
  · exact (((aq.trans q1).trans q2).trans q3).trans (QD.of (by have := iU.1.1; rw [ups_ne (by omega)] at this; omega) (fun j hj => ups_ne (by omega)))
/-! keep and goBack -/
def KP (M : xM) (w : Nat → Int) : Prop := M 0 5 = 1 ∧ R (kp M) w ∧ MV (kp M) w
theorem KP.fr {M M1 : xM} {w : Nat → Int} (h : KP M w) (f : FRc M M1) : KP M1 w := by
  have e : ∀ c, 3 ≤ c → c < 195 → kp M1 c = kp M c := fun c h1 h2 => by
    funext k; show M1 (c + 196) k = M (c + 196) k
    rw [f (c + 196) (by omega)]
  exact ⟨by rw [f 0 (by omega)]; exact h.1, h.2.1.fr e, h.2.2.frM e⟩
theorem kop_keep {M : xM} {w T : Nat → Int} {n : Nat} (hr : Cx M w T n) : ∃ M1, fX11_keep 0 M = some (.inl (w 1547), M1) ∧ Cx M1 w T n ∧ KP M1 w ∧ ∀ c, 400 ≤ c → M1 c = M c := by
  obtain ⟨hR, hV, hI, hO, hN⟩ := id hr
  obtain ⟨M', e, f1, f2, f3⟩ := cf_book (D := 196) (S := 0) (Or.inr ⟨rfl, rfl⟩) M
  have lo : ∀ c, c < 199 → M' c = M c := fun c hc => f2 c (Or.inl (by omega))
  have hi : ∀ c, 395 ≤ c → M' c = M c := fun c hc => f2 c (Or.inr (by omega))
  have f1' : ∀ c k, cpd c k → M' (c + 196) k = M c k := fun c k h => by
    have := f1 c k h; rw [Nat.zero_add, Nat.add_comm] at this; exact this
  have hF : fX11_keep 0 M = some (.inl (w 1547), xup M' 0 5 1) := by
    unfold fX11_keep
    rw [xr_0_1, xr_0_2, e, xb_l, xput_b, xup_c (by omega), lo 3 (by omega), hR.day]; rfl
  have kl : ∀ c, 0 < c → xup M' 0 5 1 c = M' c := fun c h0 => xup_row (by omega)
  have kn : ∀ c, 3 ≤ c → c < 195 → xup M' 0 5 1 c = M c := fun c h0 hc => (kl c (by omega)).trans (lo c (by omega))
  have kN : ∀ t : Nat, t < 20 → xup M' 0 5 1 (298 + t) 0 = (t : Int) := fun t ht => by
    rw [kl _ (by omega)]
    have := f3 t ht
    rw [show 196 + 102 + t = 298 + t by omega] at this
    rw [this]; exact hN t ht
  have kc : ∀ c k, cpd c k → kp (xup M' 0 5 1) c k = M c k := fun c k h => by
    show xup M' 0 5 1 (c + 196) k = _
    rw [kl _ (by omega)]; exact f1' c k h
  have kt : ∀ t : Nat, t < 20 → kp (xup M' 0 5 1) (102 + t) 0 = (t : Int) := fun t ht => by
    show xup M' 0 5 1 (102 + t + 196) 0 = _
    rw [show 102 + t + 196 = 298 + t by omega]; exact kN t ht
  exact ⟨_, hF, ⟨hR.fr kn, hV.frM kn, hI, fun a ha => by rw [kl 2 (by omega), lo 2 (by omega)]; exact hO a ha, kN⟩, ⟨xup_same, hR.cpR kc kt, hV.cpR hI.1 kc⟩, fun c hc => by rw [kl c (by omega)]; exact hi c (by omega)⟩
theorem kop_goBack {M : xM} {w T wk : Nat → Int} {n : Nat} (hr : Cx M w T n) (hk : KP M wk) (kI : Inv ((n : Int) * 7000000000000000) wk) : ∃ M1, fX11_goBack 0 M = some (.inl (wk 1547), M1) ∧ Cx M1 wk T n ∧ ∀ c, 400 ≤ c → M1 c = M c := by
  obtain ⟨hR, hV, hI, hO, hN⟩ := id hr
  obtain ⟨hB, kR, kV⟩ := hk
  obtain ⟨M', e, f1, f2, f3⟩ := cf_book (D := 0) (S := 196) (Or.inl ⟨rfl, rfl⟩) M
  have lo : ∀ c, c < 3 → M' c = M c := fun c hc => f2 c (Or.inl (by omega))
  have hi : ∀ c, 199 ≤ c → M' c = M c := fun c hc => f2 c (Or.inr (by omega))
  have f1' : ∀ c k, cpd c k → M' c k = kp M c k := fun c k h => by
    have := f1 c k h
    rw [Nat.zero_add, Nat.add_comm] at this; exact this
  have ft : ∀ t : Nat, t < 20 → M' (102 + t) 0 = (t : Int) := fun t ht => by
    have := f3 t ht
    rw [show 0 + 102 + t = 102 + t by omega] at this
    rw [this, hR.tN ht]
  have hF : fX11_goBack 0 M = some (.inl (wk 1547), M') := by
    unfold fX11_goBack
    rw [hB, c_sta1, xb_l, xr_0_1, xr_0_2, e, xb_l]
    have : M' 3 16 = wk 1547 := by rw [f1' 3 16 (Or.inr (Or.inr ⟨rfl, by omega, by omega⟩))]; exact kR.day
    rw [this]; rfl
  exact ⟨M', hF, ⟨kR.cpR f1' ft, kV.cpR kI.1 f1', kI, fun a ha => by rw [lo 2 (by omega)]; exact hO a ha, fun t ht => by rw [hi _ (by omega)]; exact hN t ht⟩, fun c hc => hi c (by omega)⟩
/-! what is used -/
theorem fb_sg {N : Nat} (h : N < 9223372036854775808) : Jvm.FP.Core.fieldS Jvm.FP.Core.b64 N = false := by
  unfold Jvm.FP.Core.fieldS
  rw [fb_t, fb_e]
  simp; omega
theorem fb_pos {N : Nat} (h : N < 9223372036854775808) : 0 ≤ xdcg (UInt64.ofNat N) 0 := by
  have e0 : Jvm.FP.Core.decode Jvm.FP.Core.b64 (0 : UInt64).toNat = .fin false 0 (-1074) := by decide +kernel
  have e1 : (UInt64.ofNat N).toNat = N := UInt64.toNat_ofNat_of_lt' (show N < 18446744073709551616 by omega)
  unfold xdcg
  show 0 ≤ (Op.cmpValue (Jvm.FP.Core.order (Jvm.FP.Core.decode Jvm.FP.Core.b64 (UInt64.ofNat N).toNat) (Jvm.FP.Core.decode Jvm.FP.Core.b64 (0 : UInt64).toNat)) .g).toInt
  rw [e0, e1]
  have hd : Jvm.FP.Core.decode Jvm.FP.Core.b64 N = .nan ∨ Jvm.FP.Core.decode Jvm.FP.Core.b64 N = .inf false ∨ ∃ c q, Jvm.FP.Core.decode Jvm.FP.Core.b64 N = .fin false c q := by
    unfold Jvm.FP.Core.decode
    rw [fb_sg h]
    split
    · split
      · exact Or.inr (Or.inl rfl)
      · exact Or.inl rfl
    · split
      · exact Or.inr (Or.inr ⟨_, _, rfl⟩)
      · exact Or.inr (Or.inr ⟨_, _, rfl⟩)
  rcases hd with z | z | ⟨c, q, z⟩
  · rw [z]; decide
  · rw [z]; decide
  · rw [z]
    show 0 ≤ (Op.cmpValue (some (compare (Jvm.FP.Core.signed false (Jvm.FP.Core.inUnits c q (min q (-1074)))) (Jvm.FP.Core.signed false (Jvm.FP.Core.inUnits 0 (-1074) (min q (-1074)))))) .g).toInt
    have z2 : Jvm.FP.Core.signed false (Jvm.FP.Core.inUnits 0 (-1074) (min q (-1074))) = 0 := by
      unfold Jvm.FP.Core.signed Jvm.FP.Core.inUnits; simp
    have z1 : 0 ≤ Jvm.FP.Core.signed false (Jvm.FP.Core.inUnits c q (min q (-1074))) := by
      unfold Jvm.FP.Core.signed; simp
    rw [z2]
    generalize Jvm.FP.Core.signed false (Jvm.FP.Core.inUnits c q (min q (-1074))) = v at z1
    have : compare v 0 = .eq ∨ compare v 0 = .gt := by
      simp only [compare, compareOfLessAndEq]
      rw [if_neg (by omega)]
      by_cases y : v = 0
      · rw [if_pos y]; exact Or.inl rfl
      · rw [if_neg y]; exact Or.inr rfl
    rcases this with y | y <;> rw [y] <;> decide
theorem fb_divp {x y : Int} (h0 : 1 ≤ x) (h1 : x < 9223372036854775808) (h2 : 1 ≤ y) (h3 : y < 9223372036854775808) : 0 ≤ xdcg (FP.ddiv (xl2d x) (xl2d y)) 0 := by
  obtain ⟨c, q, hc, hd⟩ := fb_l2d h0 h1
  obtain ⟨c2, q2, hc2, hd2⟩ := fb_l2d h2 h3
  have e : FP.ddiv (xl2d x) (xl2d y) = UInt64.ofNat (Jvm.FP.Core.encode Jvm.FP.Core.b64 (Jvm.FP.Core.roundRatio Jvm.FP.Core.b64 false c c2 (q - q2))) := by
    show UInt64.ofNat (Jvm.FP.Core.encode Jvm.FP.Core.b64 (Jvm.FP.Core.quotient Jvm.FP.Core.b64 (Jvm.FP.Core.decode Jvm.FP.Core.b64 (xl2d x).toNat) (Jvm.FP.Core.decode Jvm.FP.Core.b64 (xl2d y).toNat))) = _
    rw [hd, hd2]
    show UInt64.ofNat (Jvm.FP.Core.encode Jvm.FP.Core.b64 (if c2 = 0 then (if c = 0 then .nan else .inf (false != false)) else Jvm.FP.Core.roundRatio Jvm.FP.Core.b64 (false != false) c c2 (q - q2))) = _
    rw [if_neg (by omega)]; rfl
  rw [e]
  exact fb_pos (Nat.lt_of_le_of_lt (fb_rr _ _ _) (by omega))
theorem kop_used {M : xM} {w T : Nat → Int} {n : Nat} (hr : Cx M w T n) (hn5 : n ≤ 500) {a : Nat} (ha : (a : Int) < w 1540) : ∃ u : UInt64, fX11_used 0 (a : Int) M = some (.inl (u.toNat : Int), M) ∧ 0 ≤ xdcg u 0 ∧ (0 ≤ sFC w a → xdcl u 0 = 0) := by
  obtain ⟨hR, hV, ⟨⟨hC, hA, hS, hH, hI, hT, hK, hL, hE⟩, hY, hM⟩, hO, -⟩ := id hr
  have hb := hC.1
  have hnn := hC.2.1
  have ha4 : a < 10 := by omega
  have hl := sLim_r hC hA hS hH ha4
  have hf := sFC_r hM (by omega) ha4
  have q : inb (a : Int) (w 1540) = true := by unfold inb; rw [decide_eq_true (by omega), decide_eq_true ha]; rfl
  refine ⟨sUsd w a, ?_, ?_, fun z => ?_⟩
  · unfold fX11_used sUsd
    rw [c_needA hR, q, if_t, xb_l, xr_0_1, c_acc (by omega), xb_l, Int.toNat_natCast, c_fc hR ha4, xb_l, c_lim hR ha4 hnn.1 hnn.2 (Inv0.hb hS hH ha4) (hH.all hS ha4 _ 0 (by omega)), xb_l]
    by_cases z : sFC w a < 0
    · rw [if_pos z, if_pos z]
      by_cases y : sLim w a = 0
      · rw [if_pos y, y, fb_inf, fb_div0 (by omega) (by omega), fb_xinf]; rfl
      · rw [if_neg y, w64_i (by omega) (by omega), fb_div (by omega) (by omega) (by omega) (by omega)]; rfl
    · rw [if_neg z, if_neg z]; rfl
  · unfold sUsd
    by_cases z : sFC w a < 0
    · rw [if_pos z]
      by_cases y : sLim w a = 0
      · rw [y, fb_div0 (by omega) (by omega)]; decide +kernel
      · exact fb_divp (by omega) (by omega) (by omega) (by omega)
    · rw [if_neg z]; decide +kernel
  · unfold sUsd
    rw [if_neg (by omega)]; decide +kernel
theorem inb_i {a : Nat} {n : Int} (h : (a : Int) < n) : inb (a : Int) n = true := by
  unfold inb; rw [decide_eq_true (by omega), decide_eq_true h]; rfl
theorem inb_o {x n : Int} (h : x < 0 ∨ n ≤ x) : inb x n = false := by
  unfold inb
  rcases h with h | h
  · rw [decide_eq_false (show ¬ 0 ≤ x by omega)]; rfl
  · rw [decide_eq_false (show ¬ x < n by omega), Bool.and_false]
