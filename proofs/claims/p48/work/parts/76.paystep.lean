-- an event is paid: class, model and invariants at once
def PayOK (M : xM) (w T : Nat → Int) (e : Nat) (N : Int) : Prop := ∃ (M' : xM) (w' T' : Nat → Int), fX3_payOut 399 (155 + 4 * e) M = some (.inl 0, M') ∧ SS M' w' T' ∧ fz M M' ∧ Inv0 w' ∧ IM (N + 600000000000000) w' ∧ (∀ (X : xM) (h : Int), fX12_pay 400 (e : Int) (st X w T h) = some (.inl 0, st X w' T' h)) ∧ w' (1130 + e) = 1 ∧ (∀ x, x < 10 → x ≠ e → w' (1130 + x) = w (1130 + x)) ∧ (∀ j, ((1050 ≤ j ∧ j < 1130) ∨ (1540 ≤ j ∧ j ≠ 1544)) → w' j = w j) ∧ QD w w'
theorem IM.rng {n : Int} {w : Nat → Int} (h : IM n w) : lq w := fun a ha => (h a ha).2.2
theorem IM.led {n : Int} {w w' : Nat → Int} (h : IM n w) (hw : ∀ j, 30 ≤ j → j < 50 → w' j = w j) (hq : lq w') : IM n w' := fun a ha => by
  have k := h a ha
  rw [hw (30 + a) (by omega) (by omega), hw (40 + a) (by omega) (by omega)]
  exact ⟨k.1, k.2.1, hq a ha⟩
theorem wD_b192 {A B : Int} {w : Nat → Int} {s nA : Nat} {DH DB : Nat → Bool} {o v : Int} (hs : s < 4) (hn : nA ≤ 10) : wD A B (ups w (192 + s) v) s nA DH DB o = wD A B w s nA DH DB o := by
  funext i
  unfold wD
  by_cases z : 100 ≤ i ∧ i < 140 ∧ (i - 100) % 4 = s ∧ DH ((i - 100) / 4) = true
  · rw [if_pos z, if_pos z, sNh_up hs hn (by omega) (by omega)]
  · rw [if_neg z, if_neg z]
    by_cases q : i = 192 + s
    · subst q
      have y : ¬ (140 ≤ 192 + s ∧ 192 + s < 180 ∧ (192 + s - 140) % 4 = s ∧ DB ((192 + s - 140) / 4) = true) := fun y => absurd y.2.1 (by omega)
      rw [if_neg y, if_neg y, if_pos rfl, if_pos rfl]
    · rw [ups_ne q]
theorem c_po46 {M : xM} {w T : Nat → Int} (hS : SS M w T) (hL : LT w) {e nT : Nat} (he : e < 10) (hn : w 1543 = (nT : Int)) : ∃ M', fX3_payOut_46 399 (155 + 4 * e) M = some (.inl 0, M') ∧ SS M' (ups (lCm e nT 0 w) (1130 + e) 1) T ∧ fz M M' := by
  have c3 := hL.1.2.2.2.1
  obtain ⟨M1, a1, ⟨a2, a3, a4⟩, a5⟩ := c_cm (T := T) he nT 0 xN M w (by omega) (by unfold xN; omega) hS hL
  refine ⟨xup M1 (155 + 4 * e) 8 1, ?_, ⟨a2.edon_up he, a3.up (by omega) (by omega) (by omega) (by omega) (by omega) (by omega) (by omega), a4.c (by omega)⟩, a5.x (by omega)⟩
  unfold fX3_payOut_46 fX3_payClaims
  rw [show fX3_payClaims_2 399 (155 + 4 * e) xN 0 M = _ from a1, xb_l, xput_b]; rfl
theorem pay_div {M : xM} {w T : Nat → Int} (hS : SS M w T) (h0 : Inv0 w) {e : Nat} (he : e < 10) (hl : (e : Int) < w 1546) (hz : w (1130 + e) = 0) {N : Int} (hM : IM N w) (hN0 : 0 ≤ N) (hN : N + 600000000000000 ≤ 4000000000000000000) (hk : w (1050 + e) = 0) : PayOK M w T e N := by
  have hC := h0.1
  have c0 := hC.1
  have c1 := hC.2.1
  have c3 := hC.2.2.2.1
  have kE := h0.2.2.2.2.2.2.2.2 e he
  obtain ⟨-, e2, e3, -⟩ := kE.1 hl
  obtain ⟨s, hes⟩ := ex_nat e2.1
  have hs : s < 4 := by omega
  obtain ⟨nA, hnA⟩ := ex_nat c0.1
  obtain ⟨nT, hnT⟩ := ex_nat c3.1
  have kq := KQ_le w
  have hP := h0.pf
  obtain ⟨i1, i2⟩ := lDv_i he hs (w0 := w) (fun a ha => by have := kE.2.2.2.2.2.1 a ha; omega) e3 nA 0 w N (by omega) hP (eqo.refl pm w) hM hN0 (by omega)
  have hL1 : LT (lDv e s nA 0 w) := h0.lt.pm i1
  have n43 : lDv e s nA 0 w 1543 = (nT : Int) := by rw [i1 1543 (pm_f (by omega))]; exact hnT
  obtain ⟨j1, j2, j3⟩ := lCm_i (e := e) nT 0 (lDv e s nA 0 w) (by omega) hL1 (eqo.refl pm _) i2.rng (fun _ _ _ => rfl)
  have jj := i1.trans j1
  obtain ⟨M1, a1, a2, a3⟩ := c_dv (T := T) he hs nA 0 xN M w (by omega) (by unfold xN; omega) hS hP hes
  obtain ⟨M2, b1, b2, b3⟩ := c_po46 a2 hL1 he n43
  have hd := (h0.done he hl hz).1
  have q1 : QD w (lDv e s nA 0 w) := QD.of c0.2 (fun j hj => lDv_ne nA 0 w (by omega) j (by omega))
  have q2 : QD (lDv e s nA 0 w) (lCm e nT 0 (lDv e s nA 0 w)) := lCm_qd nT 0 _ (by omega) hL1 (h0.at.pm h0.lt i1)
  refine ⟨M2, _, T, ?_, b2, a3.trans b3, hd.pm (fun j hj => ?_), ?_, fun X h => ?_, ups_same, fun x hx hne => ?_, fun j hj => ?_, (q1.trans q2).trans (QD.of (by rw [(q1.trans q2).2.2 1540 (by omega)]; exact c0.2) (fun j hj => ups_ne (by omega)))⟩
  · unfold fX3_payOut fX3_payDividend
    rw [hS.1.ekin he, hk, if_neg (by decide), if_pos rfl, show fX3_payDividend_2 399 (155 + 4 * e) xN 0 M = _ from a1, xb_l]; exact b1
  · unfold ups; split
    · rfl
    · exact jj j hj
  · have : IM (N + 600000000000000) (lCm e nT 0 (lDv e s nA 0 w)) := (i2.led j3 j2).mono (by omega)
    exact this.fr (fun j _ _ => ups_ne (by omega))
  · unfold fX12_pay fX12_pay_60 fX12_dividend
    simp (disch := omega) only [w32_i, xix_t, xr_400_0, tn_add, Int.toNat_natCast, Int.reduceToNat, xput_b, st_w, st_401, ups_ne, hk]
    rw [if_neg (by decide), if_pos trivial]
    have hPd := hd.pf
    have x1 := m_dv (M := X) (T := T) (h := h) he hs nA 0 xN (ups w (1130 + e) 1) (by rw [ups_ne (by omega)]; omega) (by unfold xN; omega) hPd (by rw [ups_ne (by omega)]; exact hes)
    rw [lDv_up he hs nA 0 w (by omega) hP] at x1
    have x2 := m_cm (M := X) (T := T) (h := h) he nT 0 xN (ups (lDv e s nA 0 w) (1130 + e) 1) (by rw [ups_ne (by omega)]; omega) (by unfold xN; omega) (hd.lt.pm (fun j hj => by
      unfold ups; split
      · rfl
      · exact i1 j hj))
    rw [lCm_up he nT 0 _ (by omega) hL1] at x2
    rw [show fX12_dividend_2 400 (e : Int) xN 0 (st X (ups w (1130 + e) 1) T h) = _ from x1, xb_l]
    exact x2
  · rw [ups_ne (by omega)]; exact jj _ (pm_f (by omega))
  · rw [ups_ne (by omega)]; exact jj _ (pm_f (by omega))
theorem pay_opt {M : xM} {w T : Nat → Int} (hS : SS M w T) (h0 : Inv0 w) {e : Nat} (he : e < 10) (hl : (e : Int) < w 1546) (hz : w (1130 + e) = 0) {N : Int} (hM : IM N w) (hN0 : 0 ≤ N) (hN : N + 600000000000000 ≤ 4000000000000000000) (hk : w (1050 + e) = 2) : PayOK M w T e N := by
  have hC := h0.1
  have c0 := hC.1
  have c1 := hC.2.1
  have c3 := hC.2.2.2.1
  have kE := h0.2.2.2.2.2.2.2.2 e he
  obtain ⟨-, e2, e3, -, e5, -⟩ := kE.1 hl
  obtain ⟨b1, b2, cc1, cc2⟩ := e5 hk
  obtain ⟨s, hes⟩ := ex_nat e2.1
  have hs : s < 4 := by omega
  obtain ⟨nA, hnA⟩ := ex_nat c0.1
  obtain ⟨nT, hnT⟩ := ex_nat c3.1
  have kq := KQ_le w
  have kg := KQ_ge w
  have hP := h0.pf
  obtain ⟨hd, hKQ⟩ := h0.done he hl hz
  obtain ⟨of1, of2⟩ := opt_facts h0 he hl hk hnA
  have hsum := (h0.2.2.2.1.2 s hs).2
  obtain ⟨i1, i2, i3, i4⟩ := lOp_i he hs (lAk w e nA 0 0) nA 0 w N (by omega) (by omega) hd hM hM.rng hN0 (by omega) of1 (by rw [hKQ]; omega)
  have hm1 := m_lAk (M := st M (ups w (1130 + e) 1) T 0)
  generalize hAA : lAk w e nA 0 0 = A at *
  have hL1 : LT (lOp e s A nA 0 w) := ⟨i1.1.fr (fun j _ _ => (ups_ne (by omega)).symm), fun t ht => ((i1.tf (t := t) (by rw [ups_ne (by omega)]; exact ht)).fr (w' := lOp e s A nA 0 w) (fun j hj => (ups_ne (by omega)).symm)).1⟩
  have n43 : lOp e s A nA 0 w 1543 = (nT : Int) := by rw [i4 1543 (by omega)]; exact hnT
  obtain ⟨j1, j2, j3⟩ := lCm_i (e := e) nT 0 (lOp e s A nA 0 w) (by omega) hL1 (eqo.refl pm _) i3 (fun _ _ _ => rfl)
  have jj : ∀ j, (50 ≤ j ∧ j < 80) ∨ (90 ≤ j ∧ j < 100) ∨ (140 ≤ j ∧ j < 192) ∨ 196 ≤ j → lCm e nT 0 (lOp e s A nA 0 w) j = w j := fun j hj => by rw [j1 j (pm_f (by omega)), i4 j (by omega)]
  have hcl := c_lAk hS.1 hC he b1 nA 0 xN 0 (by omega) (by unfold xN; omega)
  rw [hAA] at hcl
  obtain ⟨M1, a1, a2, a3⟩ := c_lOp (T := T) he hs A nA 0 xN M w (by omega) (by unfold xN; omega) hS hP (h0.2.2.2.2.2.2.2.2.sec4 hC) hes b1 cc1
  obtain ⟨M2, g1, g2, g3⟩ := c_po46 a2 hL1 he n43
  have q1 : QD w (lOp e s A nA 0 w) := QD.of c0.2 (fun j hj => i4 j (by omega))
  have q2 : QD (lOp e s A nA 0 w) (lCm e nT 0 (lOp e s A nA 0 w)) := lCm_qd nT 0 _ (by omega) hL1 (h0.at.fr h0.lt (fun j hj => i4 j (by omega)))
  refine ⟨M2, _, T, ?_, g2, a3.trans g3, i1.pm (fun j hj => ?_), ?_, fun X h => ?_, ups_same, fun x hx hne => ?_, fun j hj => ?_, (q1.trans q2).trans (QD.of (by rw [(q1.trans q2).2.2 1540 (by omega)]; exact c0.2) (fun j hj => ups_ne (by omega)))⟩
  · unfold fX3_payOut fX3_payOption
    rw [hS.1.ekin he, hk, if_neg (by decide), if_neg (by decide), show fX3_payOption_5 399 (155 + 4 * e) xN 0 0 M = _ from hcl, show fX3_payOption_35 399 (155 + 4 * e) A xN 0 M = _ from a1, xb_l]; exact g1
  · unfold ups; split
    · rfl
    · exact j1 j hj
  · have : IM (N + 600000000000000) (lCm e nT 0 (lOp e s A nA 0 w)) := (i2.led j3 j2).mono (by omega)
    exact this.fr (fun j _ _ => ups_ne (by omega))
  · unfold fX12_pay fX12_pay_60 fX12_option
    simp (disch := omega) only [w32_i, xix_t, xr_400_0, tn_add, Int.toNat_natCast, Int.reduceToNat, xput_b, st_w, st_401, ups_ne, hk, xlet_b, hes]
    rw [if_neg (by decide), if_neg (by decide)]
    have eAk : lAk (ups w (1130 + e) 1) e nA 0 0 = A := by
      rw [← hAA]
      have : ∀ k a x, a + k ≤ 10 → lAk (ups w (1130 + e) 1) e k a x = lAk w e k a x := by
        intro k
        induction k with
        | zero => intro a x _; rfl
        | succ k ih =>
          intro a x ha
          have e1 : sAk (ups w (1130 + e) 1) e a = sAk w e a := by unfold sAk; rw [ups_ne (by omega), ups_ne (by omega)]
          show lAk (ups w (1130 + e) 1) e k (a + 1) (w64 (x + sAk (ups w (1130 + e) 1) e a)) = lAk w e k (a + 1) (w64 (x + sAk w e a))
          rw [e1]; exact ih (a + 1) _ (by omega)
      exact this nA 0 0 (by omega)
    have x0 := m_lAk (M := st X (ups w (1130 + e) 1) T h) hd.1 he (by rw [st_401, ups_ne (by omega)]; exact b1) (s : Int) nA 0 xN 0 (by rw [st_401, ups_ne (by omega)]; omega) (by unfold xN; omega)
    rw [st_401, eAk, ups_ne (i := 1080 + e) (by omega)] at x0
    have x1 := m_lOp (M := X) (T := T) (h := h) he hs A (w (1080 + e)) nA 0 xN (ups w (1130 + e) 1) (by rw [ups_ne (by omega)]; omega) (by unfold xN; omega) hd.pf (ups_ne (by omega)) b1 (by rw [ups_ne (by omega)]; exact cc1)
    rw [lOp_up he hs nA 0 w (by omega) hP] at x1
    have x2 := m_cm (M := X) (T := T) (h := h) he nT 0 xN (ups (lOp e s A nA 0 w) (1130 + e) 1) (by rw [ups_ne (by omega)]; omega) (by unfold xN; omega) i1.lt
    rw [lCm_up he nT 0 _ (by omega) hL1] at x2
    rw [show fX12_option_29 400 (e : Int) (s : Int) (w (1080 + e)) xN 0 0 (st X (ups w (1130 + e) 1) T h) = _ from x0, show fX12_option_76 400 (e : Int) (s : Int) (w (1080 + e)) A xN 0 (st X (ups w (1130 + e) 1) T h) = _ from x1, xb_l]
    exact x2
  · rw [ups_ne (by omega)]; exact jj _ (by omega)
  · rw [ups_ne (by omega)]; exact jj _ (by omega)
theorem pay_spl {M : xM} {w T : Nat → Int} (hS : SS M w T) (h0 : Inv0 w) {e : Nat} (he : e < 10) (hl : (e : Int) < w 1546) (hz : w (1130 + e) = 0) {N : Int} (hM : IM N w) (hk : w (1050 + e) = 1) : PayOK M w T e N := by
  have hC := h0.1
  have c0 := hC.1
  have c1 := hC.2.1
  have c3 := hC.2.2.2.1
  have c5 := hC.2.2.2.2.2.1
  have kE := h0.2.2.2.2.2.2.2.2 e he
  obtain ⟨-, e2, e3, e4, -, -⟩ := kE.1 hl
  obtain ⟨f1, f2, f3⟩ := e4 hk
  obtain ⟨s, hes⟩ := ex_nat e2.1
  have hs : s < 4 := by omega
  obtain ⟨nA, hnA⟩ := ex_nat c0.1
  obtain ⟨nT, hnT⟩ := ex_nat c3.1
  obtain ⟨nL, hnL⟩ := ex_nat c5.1
  have kq := KQ_le w
  have kg := KQ_ge w
  obtain ⟨hd, hKQ⟩ := h0.done he hl hz
  obtain ⟨A, hA⟩ : ∃ A, w (1070 + e) = A := ⟨_, rfl⟩
  obtain ⟨B, hB⟩ : ∃ B, w (1080 + e) = B := ⟨_, rfl⟩
  have aA : AB A := by unfold AB; omega
  have aB : AB B := by unfold AB; omega
  have hP := h0.pk hnA
  have hn10 := hP.1
  have hF : SF w e s nA A B := ⟨he, hs, hP, hnA, hes, hA, hB, by omega, h0.2.2.2.2.2.2.2.2.sec4 hC, fun a ha => by
    have := h0.2.2.2.1.le ha hs
    exact ⟨by omega, by omega⟩⟩
  have w0 : wD A B w s nA (dS w 0 0) (dS w 0 0) (w (192 + s)) = w := wD_0 _ _ (fun a => dS_z a) (fun a => dS_z a) rfl
  obtain ⟨M1, a1, a2, a3⟩ := c_spo (T := T) hF (w (192 + s)) nA 0 xN M 0 (by omega) (by unfold xN; omega) (by rw [w0]; exact hS)
  have iS := h0.split he hl hz hs (by omega) aA aB hnA hnL
  generalize ho : sOu A B w s nA nA 0 0 = o at *
  have v1 := fun (j : Nat) (hj : j < 100 ∨ (180 ≤ j ∧ j ≠ 192 + s)) => wD_ne (A := A) (B := B) (w := w) (s := s) (nA := nA) (DH := dBl nA) (DB := dBl nA) (o := o) (j := j) hj
  have hC1 : IC (wD A B w s nA (dBl nA) (dBl nA) o) := hC.fr (fun j _ _ => v1 j (by omega))
  obtain ⟨M2, b1, b2, b3⟩ := c_sl (w := wD A B w s nA (dBl nA) (dBl nA) o) (T := T) (s := s) (A := A) (B := B) he (by rw [v1 _ (by omega)]; exact hes) (by rw [v1 _ (by omega)]; exact hA) (by rw [v1 _ (by omega)]; exact hB) aA.r aB.r.1 hC1 (fun l hl2 hc => by
    rw [v1 _ (by omega)] at hc
    rw [v1 _ (by omega)]
    have := (h0.2.2.2.2.2.2.2.1 l hl2 hc).2.2.2.1
    omega) nL 0 xN M1 (by rw [v1 _ (by omega)]; omega) (by unfold xN; omega) (by rw [wSl_0]; exact a2)
  rw [Nat.zero_add] at b2
  have v2 : ∀ j, (j < 100 ∨ (180 ≤ j ∧ j ≠ 192 + s ∧ (j < 990 ∨ 1010 ≤ j))) → wSl A B (wD A B w s nA (dBl nA) (dBl nA) o) s nL j = w j := fun j hj => by
    rw [wSl_ne (by omega), v1 j (by omega)]
  generalize hW1 : wD A B w s nA (dBl nA) (dBl nA) o = W1 at *
  generalize hW2 : wSl A B W1 s nL = W2 at *
  have kq2 : KQ (ups W2 (1130 + e) 1) = 3 * KQ w := by
    rw [← hKQ]; exact KQ_eq (fun x hx => by
      unfold ups; split
      · rfl
      · exact v2 _ (by omega))
  have gT : GT e W2 0 (KQ w) := ⟨iS, by rw [kq2]; exact Int.le_refl _, by omega, fun u hu _ hc => by
    rw [v2 _ (by omega)] at hc
    rw [v2 _ (by omega), v2 _ (by omega)]
    obtain ⟨-, -, -, t4, -, -, -, t8, -⟩ := (h0.2.2.2.2.2.1 u hu).1 hc
    exact ⟨t4.2, t8.2⟩⟩
  have n43 : W2 1543 = (nT : Int) := by rw [v2 _ (by omega)]; exact hnT
  obtain ⟨M3, d1, d2, d3⟩ := c_lSt he aA aB (s := s) nT 0 xN M2 W2 T (by omega) (by unfold xN; omega) b2 gT (by rw [v2 _ (by omega)]; exact hes) (by rw [v2 _ (by omega)]; exact hA) (by rw [v2 _ (by omega)]; exact hB)
  obtain ⟨g1, g2⟩ := lSt_i he aA aB (s := s) nT 0 W2 T (by omega) gT
  have qS := lSt_qd he aA aB (s := s) nT 0 W2 T (by omega) gT
  have hm3 := fun (X : xM) (h : Int) => m_lSt (M := X) (h := h) he aA aB (s := s) nT 0 xN W2 T (by omega) (by unfold xN; omega) gT
  generalize hW3 : lSt A B s nT 0 W2 T = P3 at *
  have hL3 := g1.lt he
  have v3 : ∀ j, (j < 100 ∨ (920 ≤ j ∧ j ≠ 1544 ∧ (j < 990 ∨ 1010 ≤ j))) → P3.1 j = w j := fun j hj => by rw [g2 j (by omega), v2 j (by omega)]
  have lq3 : lq P3.1 := hM.rng.fr (fun j _ _ => v3 j (by omega))
  have cm0 : lCm e nT 0 P3.1 = P3.1 := lCm_0 hL3 lq3 (fun t ht => by
    rw [v3 _ (by omega)]; exact (kE.2.2.2.2.2.2 t ht).2.2 hk) nT 0 (by rw [v3 1543 (by omega)]; omega)
  obtain ⟨M4, k1, k2, k3⟩ := c_po46 d2 hL3 he (nT := nT) (by rw [v3 1543 (by omega)]; exact hnT)
  rw [cm0] at k2
  have q1 : QD w W2 := QD.of c0.2 (fun j hj => v2 j (by omega))
  refine ⟨M4, _, P3.2, ?_, k2, ((a3.trans b3).trans d3).trans k3, g1.1, ?_, fun X h => ?_, ups_same, fun x hx hne => ?_, fun j hj => ?_, (q1.trans qS).trans (QD.of (by rw [(q1.trans qS).2.2 1540 (by omega)]; exact c0.2) (fun j hj => ups_ne (by omega)))⟩
  · unfold fX3_payOut fX3_splitHoldings fX3_splitLoans fX3_splitTrades
    rw [hS.1.ekin he, hk, if_pos rfl, show fX3_splitHoldings_5 399 (155 + 4 * e) xN 0 0 M = _ from a1, xb_l, show fX3_splitLoans_2 399 (155 + 4 * e) xN 0 M1 = _ from b1, xb_l, show fX3_splitTrades_2 399 (155 + 4 * e) xN 0 M2 = _ from d1, xb_l]
    exact k1
  · exact (hM.mono (by omega)).fr (fun j _ _ => by rw [ups_ne (by omega)]; exact v3 j (by omega))
  · unfold fX12_pay fX12_split
    simp (disch := omega) only [w32_i, xix_t, xr_400_0, tn_add, Int.toNat_natCast, Int.reduceToNat, xput_b, st_w, st_401, ups_ne, hk, xlet_b, hes, hA, hB]
    rw [if_pos trivial]
    have nn : ∀ j, j ≠ 192 + s → j ≠ 1130 + e → ups (ups w (1130 + e) 1) (192 + s) 0 j = w j := fun j h1 h2 => by rw [ups_ne h1, ups_ne h2]
    have hF0 : SF (ups (ups w (1130 + e) 1) (192 + s) 0) e s nA A B := ⟨he, hs, ⟨hn10, fun a ha => by
      have k := hP.2 a ha
      rw [nn _ (by omega) (by omega)]
      refine ⟨k.1, fun z => ?_⟩
      have k2 := k.2 z
      rw [nn a (by omega) (by omega), nn _ (by omega) (by omega)]; exact k2⟩, by rw [nn _ (by omega) (by omega)]; exact hnA, by rw [nn _ (by omega) (by omega)]; exact hes, by rw [nn _ (by omega) (by omega)]; exact hA, by rw [nn _ (by omega) (by omega)]; exact hB, by omega, fun x hx hn => by
      rw [nn _ (by omega) (by omega)] at hn
      rw [nn _ (by omega) (by omega)]; exact h0.2.2.2.2.2.2.2.2.sec4 hC x hx hn, fun a ha => by rw [nn _ (by omega) (by omega)]; exact hF.2.2.2.2.2.2.2.2.2 a ha⟩
    have x1 := m_spo (M := X) (T := T) (h := h) hF0 nA 0 xN 0 (by omega) (by unfold xN; omega)
    have x0 : wD A B (ups (ups w (1130 + e) 1) (192 + s) 0) s nA (dS (ups (ups w (1130 + e) 1) (192 + s) 0) 0 0) (dBl 0) 0 = ups (ups w (1130 + e) 1) (192 + s) 0 := by
      rw [dS_0, dB_0]; exact wD_192 (o := 0) hs hn10
    have xo : sOu A B (ups (ups w (1130 + e) 1) (192 + s) 0) s nA nA 0 0 = o := by
      rw [sOu_up hs hn10 (by omega) nA 0 0 (by omega), sOu_up hs hn10 (by omega) nA 0 0 (by omega)]; exact ho
    rw [x0, xo, wD_b192 hs hn10, wD_up hs hn10 (by omega), hW1] at x1
    have x2 := m_sl (M := X) (w := ups W1 (1130 + e) 1) (T := T) (h := h) (s := s) (A := A) (B := B) aB.r.1 (hC1.fr (fun j _ _ => ups_ne (by omega))) nL 0 xN (by rw [ups_ne (by omega), v1 _ (by omega)]; omega) (by unfold xN; omega)
    rw [wSl_0, Nat.zero_add, wSl_up (by omega) (by omega), hW2] at x2
    rw [show fX12_split_49 400 (s : Int) A B xN 0 (st X (ups (ups w (1130 + e) 1) (192 + s) 0) T h) = _ from x1, show fX12_split_362 400 (s : Int) A B xN 0 (st X (ups W1 (1130 + e) 1) T h) = _ from x2, show fX12_split_460 400 (s : Int) A B xN 0 (st X (ups W2 (1130 + e) 1) T h) = _ from hm3 X h, xb_l]; rfl
  · rw [ups_ne (by omega)]; exact v3 _ (by omega)
  · rw [ups_ne (by omega)]; exact v3 _ (by omega)
theorem pay_step {M : xM} {w T : Nat → Int} (hS : SS M w T) (h0 : Inv0 w) {e : Nat} (he : e < 10) (hl : (e : Int) < w 1546) (hz : w (1130 + e) = 0) {N : Int} (hM : IM N w) (hN0 : 0 ≤ N) (hN : N + 600000000000000 ≤ 4000000000000000000) : PayOK M w T e N := by
  have k := (h0.2.2.2.2.2.2.2.2 e he).1 hl
  have k1 := k.1
  by_cases q : w (1050 + e) = 1
  · exact pay_spl hS h0 he hl hz hM q
  · by_cases q2 : w (1050 + e) = 0
    · exact pay_div hS h0 he hl hz hM hN0 hN q2
    · exact pay_opt hS h0 he hl hz hM hN0 hN (by omega)
