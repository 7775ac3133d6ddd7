/-! act: a call, or a refusal that changes nothing -/
theorem xand_nn (x : Int) : 0 ≤ xand x 2147483647 := by
  unfold xand
  show 0 ≤ (Int32.ofInt x &&& Int32.ofInt 2147483647).toBitVec.toInt
  rw [Int32.toBitVec_and, BitVec.toInt_eq_msb_cond, BitVec.msb_and, show (Int32.ofInt 2147483647).toBitVec.msb = false from by decide, Bool.and_false]
  simp
theorem low_ok (x : Int) {n : Int} (hn : 0 < n) : ∃ v, (0 ≤ v ∧ v < n) ∧ ∀ M, fL_low x n M = some (.inl v, M) := by
  have h := xand_nn x
  refine ⟨xand x 2147483647 - Int.tdiv (xand x 2147483647) n * n, ?_, fun M => ?_⟩
  · rw [Int.tdiv_eq_ediv_of_nonneg h]
    have e := Int.emod_add_mul_ediv (xand x 2147483647) n
    have h1 := Int.emod_nonneg (xand x 2147483647) (show n ≠ 0 by omega)
    have h2 := Int.emod_lt_of_pos (xand x 2147483647) hn
    rw [Int.mul_comm n] at e
    omega
  · unfold fL_low; rw [xnz_t hn]; rfl
theorem cell_ok (sl : Nat) (sx : Nat → Int32) {x : Int} (hx : 0 ≤ x) : ∃ v, ∀ M, fL_cell sl sx x M = some (.inl v, M) := by
  by_cases z : (sl : Int) ≤ x
  · exact ⟨_, fun M => by unfold fL_cell; rw [if_pos z]; rfl⟩
  · exact ⟨_, fun M => by unfold fL_cell; rw [if_neg z, xix_t hx (by omega)]; rfl⟩
theorem xcs3 (e : Nat) (M : xM) : ∃ z, (z = -2 ∨ z = -3 ∨ z = -4) ∧ xcs e (xret (-2) M) (xret (-3) M) (xret (-4) M) = some (.inl z, M) := by
  match e with
  | 0 => exact ⟨-2, by omega, rfl⟩
  | 1 => exact ⟨-3, by omega, rfl⟩
  | _ + 2 => exact ⟨-4, by omega, rfl⟩
theorem xcs2 {e : Nat} (h : e ≠ 1) (M : xM) : ∃ z, (z = -2 ∨ z = -3 ∨ z = -4) ∧ xcs e (xret (-2) M) none (xret (-4) M) = some (.inl z, M) := by
  match e, h with
  | 0, _ => exact ⟨-2, by omega, rfl⟩
  | 1, h => exact absurd rfl h
  | _ + 2, _ => exact ⟨-4, by omega, rfl⟩
def AR (F : xO) (M : xM) (w : Nat → Int) (n : Nat) : Prop := ∃ (z : Int) (M1 : xM) (w1 T1 : Nat → Int), F = some (.inl z, M1) ∧ z ≠ -100 ∧ LI M1 w1 T1 (n + 2) ∧ (-9 < z → z < -1 → w1 = w) ∧ w1 1547 = w 1547 ∧ ∀ c, 401 ≤ c → M1 c = M c
theorem ar_no {M : xM} {w T : Nat → Int} {n : Nat} (h : LI M w T n) {z : Int} (hz : z ≠ -100) : AR (some (.inl z, M)) M w n := ⟨z, M, w, T, rfl, hz, h.mono (by omega), fun _ _ => rfl, rfl, fun _ _ => rfl⟩
theorem LI.st {M M1 : xM} {w T w1 T1 : Nat → Int} {n : Nat} (h : LI M w T n) (s : Sk M M1 w1 T1 n) (q : St w w1) : LI M1 w1 T1 (n + 1) := by
  obtain ⟨hx, hc, a1, a2, ⟨k, a3, a3'⟩, a4, a5, a6, a7, a8⟩ := h
  have h0 := hx.2.2.1.1
  refine ⟨s.cx hx, (hc.fr (s.2.2.2.2 400 (by omega))).w (q.1 _ (by omega)) (q.1 _ (by omega)) (q.1 _ (by omega)), by rw [q.1 _ (by omega)]; exact a1, by rw [q.1 _ (by omega)]; exact a2, ⟨k, by rw [q.1 _ (by omega)]; exact a3, a3'⟩, by rw [q.1 _ (by omega)]; exact a4, by rw [q.1 _ (by omega)]; exact a5, a6.fr h0 (fun j hj => q.1 j (by omega)), a7.fr (fun j hj => q.1 j (by omega)) q.2, ?_⟩
  rw [sm_eq (g := fun a => w (80 + a)) 6 (fun a ha => q.1 _ (by omega))]; exact a8
theorem ar_st {M M1 : xM} {w T w1 T1 : Nat → Int} {n : Nat} (h : LI M w T n) (s : Sk M M1 w1 T1 n) (q : St w w1) {z : Int} (hz : -1 ≤ z) : AR (some (.inl z, M1)) M w n :=
  ⟨z, M1, w1, T1, rfl, by omega, (h.st s q).mono (by omega), fun _ y => absurd y (by omega), q.1 _ (by omega), fun c hc => s.2.2.2.2 c (by omega)⟩
theorem kq5 {w : Nat → Int} (hE : IE w) (h5 : w 1546 ≤ 5) : KQ w ≤ 243000000 := by
  have h := kq_le w 5
  have z : ∀ e : Nat, 5 ≤ e → e < 10 → w (1130 + e) = 0 := fun e h1 h2 => ((hE e h2).2.1 (by omega)).2
  have e10 : kq w 10 = kq w 5 := by
    have s : ∀ e : Nat, 5 ≤ e → e < 10 → kq w (e + 1) = kq w e := fun e h1 h2 => by
      rw [show kq w (e + 1) = if w (1130 + e) = 1 then 3 * kq w e else kq w e from rfl, z e h1 h2, if_neg (by omega)]
    rw [s 9 (by omega) (by omega), s 8 (by omega) (by omega), s 7 (by omega) (by omega), s 6 (by omega) (by omega), s 5 (by omega) (by omega)]
  show kq w 10 ≤ _
  rw [e10]
  have e : ((3 ^ 5 : Nat) : Int) = 243 := by decide
  rw [e] at h; omega
theorem LI.kq {M : xM} {w T : Nat → Int} {n : Nat} (h : LI M w T n) : KQ w ≤ 243000000 := kq5 h.1.2.2.1.1.2.2.2.2.2.2.2.2 h.2.2.2.2.2.1
theorem ar_bl {M : xM} {w T : Nat → Int} {n : Nat} (h : LI M w T n) (x y u : Int) : AR (xbc (fL_blocks 0 x y u M) (fun z5 M6 => (xret (w32 z5) M6)) (fun _ _ => none)) M w n := by
  unfold fL_blocks
  rcases kop_block h.1 x y u with ⟨e, he⟩ | ⟨v, M1, w1, T1, he, s, ⟨p1, p2⟩, st⟩
  · obtain ⟨z, hz, h1⟩ := xcs3 e M
    rw [he, xbc_r, h1, xbc_l, w32_i (by omega) (by omega)]; exact ar_no h (by omega)
  · have := h.kq
    rw [he, xbc_l, show (xret v M1 : xO) = some (.inl v, M1) from rfl, xbc_l, w32_i (by omega) (by omega)]; exact ar_st h s st (by omega)
theorem ar_rc {M : xM} {w T : Nat → Int} {n : Nat} (h : LI M w T n) (x : Int) : AR (xbc (fL_recalls 0 x M) (fun z5 M6 => (xret (w32 z5) M6)) (fun _ _ => none)) M w n := by
  unfold fL_recalls
  rcases kop_recall h.1 x with ⟨e, e1, he⟩ | ⟨v, M1, w1, T1, he, s, ⟨p1, p2⟩, st⟩
  · obtain ⟨z, hz, h1⟩ := xcs2 e1 M
    rw [he, xbc_r, h1, xbc_l, w32_i (by omega) (by omega)]; exact ar_no h (by omega)
  · have := h.kq
    rw [he, xbc_l, show (xret v M1 : xO) = some (.inl v, M1) from rfl, xbc_l, w32_i (by omega) (by omega)]; exact ar_st h s st (by omega)
theorem ar_ca {M : xM} {w T : Nat → Int} {n : Nat} (h : LI M w T n) (x : Int) : AR (xbc (fL_cancels 0 x M) (fun z3 M4 => (xret z3 M4)) (fun _ _ => none)) M w n := by
  unfold fL_cancels
  rcases kop_cancel h.1 x with ⟨e, e1, he⟩ | ⟨v, M1, w1, T1, he, s, p1, st⟩
  · obtain ⟨z, hz, h1⟩ := xcs2 e1 M
    rw [he, xbc_r, h1, xbc_l]; exact ar_no h (by omega)
  · rw [he, xbc_l]
    rcases p1 with p1 | p1
    · rw [if_pos p1]; exact ar_st h s st (by omega)
    · rw [if_neg (by omega)]; exact ar_st h s st (by omega)
theorem ar_ho {M : xM} {w T : Nat → Int} {n : Nat} (h : LI M w T n) (x : Int) : AR (xbc (fL_holds 0 x M) (fun z3 M4 => (xret z3 M4)) (fun _ _ => none)) M w n := by
  unfold fL_holds
  rcases kop_hold h.1 x with ⟨e, e1, he⟩ | ⟨v, M1, w1, T1, he, s, p1, st⟩
  · obtain ⟨z, hz, h1⟩ := xcs2 e1 M
    rw [he, xbc_r, h1, xbc_l]; exact ar_no h (by omega)
  · rw [he, xbc_l]
    rcases p1 with p1 | p1
    · rw [if_pos p1]; exact ar_st h s st (by omega)
    · rw [if_neg (by omega)]; exact ar_st h s st (by omega)
theorem ar_li {M : xM} {w T : Nat → Int} {n : Nat} (h : LI M w T n) (x y : Int) {b : Int} (hb : B01 b) : AR (xbc (fL_links 0 x y b M) (fun z1 M2 => (xret z1 M2)) (fun _ _ => none)) M w n := by
  unfold fL_links
  rcases kop_link h.1 hb x y with ⟨e, he⟩ | ⟨v, M1, w1, T1, he, s, p1, st⟩
  · obtain ⟨z, hz, h1⟩ := xcs3 e M
    rw [he, xbc_r, h1, xbc_l]; exact ar_no h (by omega)
  · rw [he, xbc_l]; exact ar_st h s st (by omega)
theorem ar_pr {M : xM} {w T : Nat → Int} {n : Nat} (h : LI M w T n) (y : Int) : AR (fL_act_297 0 400 y M) M w n := by
  obtain ⟨v1, r1, l1⟩ := low_ok y (show 0 < M 400 1 by rw [h.2.1.2.1]; omega)
  obtain ⟨v2, r2, l2⟩ := low_ok (xshr y 2) (show (0 : Int) < 40 by omega)
  unfold fL_act_297
  rw [l1, xb_l, l2, xb_l]
  rw [h.2.1.2.1] at r1
  rcases kop_setPrice h.1 v1 (w32 (1 + v2)) with ⟨e, e1, he⟩ | ⟨v, M1, w1, T1, he, s, p1, st⟩
  · exfalso
    have k1 : inb v1 (w 1541) = true := by unfold inb; rw [h.2.2.2.1, decide_eq_true (by omega), decide_eq_true (by omega)]; rfl
    have k2 : rg (w32 (1 + v2)) 1 1000 = true := by unfold rg; rw [w32_i (by omega) (by omega), decide_eq_true (by omega), decide_eq_true (by omega)]; rfl
    have e1 : (inb v1 (w 1541) && rg (w32 (1 + v2)) 1 1000) = false := e1
    rw [k1, k2] at e1; exact absurd e1 (by decide)
  · rw [he, xb_l]; exact ar_st h s st (by omega)
theorem c5_put {M : xM} (k : Nat) (v : Int) (F : xM → xO) : xput 400 k v M F = F (xup M 400 k v) := rfl
/-- announce -/
theorem ar_an {M : xM} {w T : Nat → Int} {n : Nat} (h : LI M w T n) (y : Int) : AR (fL_act_212 0 400 y M) M w n := by
  obtain ⟨hx, hc, hw⟩ := id h
  have hE5 := hw.2.2.2.1
  have h5 := hx.2.2.1.1.1.2.2.2.2.2.2.1
  have rest : ∀ z : Int, z < 0 → z ≠ -100 → AR (fL_act_276 400 z M) M w n := fun z hz hz2 => by
    unfold fL_act_276 fL_act_292
    rw [if_neg (by omega), xix_t (by omega) (by omega), c5_put, hc.2.2.2.2, Int.add_zero, w32_i (by omega) (by omega)]
    refine ⟨z, _, w, T, rfl, hz2, ⟨(hx.up (by omega)).mono (by omega), ⟨?_, ?_, ?_, ?_, ?_⟩, hw⟩, fun _ _ => rfl, rfl, fun c hc => xup_row (by omega)⟩
    · rw [xup_k (by decide)]; exact hc.1
    · rw [xup_k (by decide)]; exact hc.2.1
    · rw [xup_k (by decide)]; exact hc.2.2.1
    · rw [xup_k (by decide)]; exact hc.2.2.2.1
    · exact xup_same
  unfold fL_act_212
  by_cases z : M 400 4 = 5
  · rw [if_pos z]; exact rest (-9) (by omega) (by omega)
  · rw [if_neg z]
    have z4 : w 1546 ≤ 4 := by rw [hc.2.2.2.2] at z; omega
    obtain ⟨v1, r1, l1⟩ := low_ok y (show (0 : Int) < 4 by omega)
    obtain ⟨v2, r2, l2⟩ := low_ok (xshr y 2) (show 0 < w32 (M 400 1 + 1) by rw [hc.2.1]; decide)
    obtain ⟨v3, r3, l3⟩ := low_ok (xshr y 4) (show (0 : Int) < 3 by omega)
    obtain ⟨v4, r4, l4⟩ := low_ok (xshr y 6) (show (0 : Int) < 3 by omega)
    obtain ⟨v5, r5, l5⟩ := low_ok (xshr y 8) (show (0 : Int) < 2 by omega)
    rw [l1, xb_l, l2, xb_l, l3, xb_l, l4, xb_l, c_day hx.1, xb_l, l5, xb_l]
    unfold fL_announces
    rcases kop_announce hx v1 v2 (w32 (1 + v3)) (w32 (1 + v4)) 20 (w32 (w 1547 + v5)) (w32 (w32 (w 1547 + v5) + 1)) with ⟨e, he⟩ | ⟨v, M1, w1, T1, he, s, p1, p2, p3⟩
    · obtain ⟨z, hz, h1⟩ := xcs3 e M
      rw [he, xbc_r, h1, xbc_l]; exact rest z (by omega) (by omega)
    · rw [he, xbc_l, show (xret v M1 : xO) = some (.inl v, M1) from rfl, xbc_l]
      have e4 : M1 400 = M 400 := s.2.2.2.2 400 (by omega)
      unfold fL_act_276 fL_act_292
      rw [if_pos (by omega), xix_t (by omega) (by omega), c5_put, e4, hc.2.2.2.2, w32_i (by omega) (by omega)]
      obtain ⟨a1, a2, ⟨k, a3, a3'⟩, a4, a5, a6, a7, a8⟩ := hw
      have h0 := hx.2.2.1.1
      refine ⟨v, _, w1, T1, rfl, by omega, ⟨((s.cx hx).up (by omega)).mono (by omega), ⟨?_, ?_, ?_, ?_, ?_⟩, by rw [p3 _ (by omega)]; exact a1, by rw [p3 _ (by omega)]; exact a2, ⟨k, by rw [p3 _ (by omega)]; exact a3, a3'⟩, by omega, by rw [p3 _ (by omega)]; exact a5, a6.fr h0 (fun j hj => p3 j (by omega)), a7.fr (fun j hj => p3 j (by omega)) (fun i hi _ q => by rw [p3 _ (by omega)] at q; exact q), ?_⟩, fun _ q => absurd q (by omega), p3 _ (by omega), fun c hc => by rw [xup_row (by omega)]; exact s.2.2.2.2 c (by omega)⟩
      · rw [xup_k (by decide), e4]; exact hc.1
      · rw [xup_k (by decide), e4]; exact hc.2.1
      · rw [xup_k (by decide), e4, p3 _ (by omega)]; exact hc.2.2.1
      · rw [xup_k (by decide), e4, p3 _ (by omega)]; exact hc.2.2.2.1
      · rw [p2]; exact xup_same
      · rw [sm_eq (g := fun a => w (80 + a)) 6 (fun a ha => p3 _ (by omega))]; exact a8
/-! two sides of an instruction -/
theorem ins1 {M : xM} {w T : Nat → Int} {n : Nat} (hx : Cx M w T n) {a b d s u m t l : Int} (hd : B01 d) (h20 : w 1543 < 20) : (((inT w a b s && (decide (a ≠ b) && (rg u 1 100000 && (rg m 0 100000000 && (rg t (w 1547) 2000 && rg l 0 u))))) && decide (w 1542 < 40)) = false ∧ ∃ z, (z = -2 ∨ z = -3 ∨ z = -4) ∧ fL_instructs 0 a b d s u m t l M = some (.inl z, M)) ∨ ∃ (M1 : xM) (w1 T1 : Nat → Int), fL_instructs 0 a b d s u m t l M = some (.inl (w 1542), M1) ∧ Sk M M1 w1 T1 n ∧ InP w w1 ∧ ((inT w a b s && (decide (a ≠ b) && (rg u 1 100000 && (rg m 0 100000000 && (rg t (w 1547) 2000 && rg l 0 u))))) && decide (w 1542 < 40)) = true := by
  obtain ⟨p, r, l1⟩ := low_ok u (show (0 : Int) < 10 by omega)
  unfold fL_instructs
  rw [l1, xbc_l]
  rcases kop_instruct hx (a := a) (b := b) (s := s) (u := u) (m := m) (t := t) (p := p) (l := l) hd h20 with ⟨e, e1, he⟩ | ⟨v, M1, w1, T1, he, sk, p0, p1, p2⟩
  · obtain ⟨z, hz, h1⟩ := xcs3 e M
    refine Or.inl ⟨?_, z, hz, by rw [he, xbc_r, h1]⟩
    have e1 : (inT w a b s && (inR w a b u m t p l && decide (w 1542 < 40))) = false := e1
    have e2 : rg p 0 9 = true := by unfold rg; rw [decide_eq_true (by omega), decide_eq_true (by omega)]; rfl
    unfold inR at e1
    rw [e2, Bool.true_and, ← Bool.and_assoc] at e1
    exact e1
  · refine Or.inr ⟨M1, w1, T1, ?_, sk, p2, ?_⟩
    · rw [he, xbc_l, p1]; rfl
    · have e2 : rg p 0 9 = true := by unfold rg; rw [decide_eq_true (by omega), decide_eq_true (by omega)]; rfl
      unfold inR at p0
      rw [e2, Bool.true_and, ← Bool.and_assoc] at p0
      exact p0
theorem cnt_ok {M1 : xM} {w w1 T1 : Nat → Int} {n : Nat} (hx : Cx M1 w1 T1 n) (h0 : Inv0 w) (q : InP w w1) (e2 : M1 400 2 = w 1542) (e3 : M1 400 3 = w 1543) : ∃ δ : Int, (∀ G : Int → Int → xM → xO, xput 400 2 (w32 ((M1 400 2) + 1)) M1 (fun M3 => xb (fX11_tradeOf 0 (w 1542) M3) (fun z4 M5 => (if z4 = (M5 400 3) then G 1 (M3 400 3) M5 else G 0 (M3 400 3) M5))) = G δ (w 1543) (xup M1 400 2 (w1 1542))) ∧ w 1543 + δ = w1 1543 := by
  have c2 := h0.1.2.2.1
  have c3 := h0.1.2.2.2.1
  obtain ⟨i, hi⟩ := ex_nat c2.1
  obtain ⟨q1, q2, q3, -⟩ := q
  rw [hi, Int.toNat_natCast] at q3
  have hC := hx.2.2.1.1.1
  have hx2 := hx.up (N := 400) (k := 2) (v := w1 1542) (by omega)
  have e : w32 (M1 400 2 + 1) = w1 1542 := by rw [e2, q1, w32_i (by omega) (by omega)]
  have main : ∀ G : Int → Int → xM → xO, xput 400 2 (w32 ((M1 400 2) + 1)) M1 (fun M3 => xb (fX11_tradeOf 0 (w 1542) M3) (fun z4 M5 => (if z4 = (M5 400 3) then G 1 (M3 400 3) M5 else G 0 (M3 400 3) M5))) = if w1 (650 + i) = w 1543 then G 1 (w 1543) (xup M1 400 2 (w1 1542)) else G 0 (w 1543) (xup M1 400 2 (w1 1542)) := fun G => by
    rw [xput_b, e, cg_tradeOf hx2.1 hC, hi, inb_i (by omega), if_t, xb_l, Int.toNat_natCast, xup_k (by decide), e3]
  rcases q3 with ⟨q3, q4⟩ | ⟨q3, q4⟩
  · exact ⟨1, fun G => by rw [main G, if_pos q3], by omega⟩
  · exact ⟨0, fun G => by rw [main G, if_neg (by omega)], by omega⟩
theorem ar_in {M : xM} {w T : Nat → Int} {n : Nat} (h : LI M w T n) (y a b s u m t l : Int) (hm : 0 ≤ m ∧ m < 1000) (h28 : w 1542 < 28) : AR (fL_instruct_143 0 400 y a b s u m t l M) M w n := by
  obtain ⟨hx, hc, hw⟩ := id h
  obtain ⟨a1, a2, ⟨k, a3, a3'⟩, a4, a5, a6, a7, a8⟩ := id hw
  have h0 := hx.2.2.1.1
  have t1 := t14 h0
  unfold fL_instruct_143
  rcases ins1 hx (a := a) (b := b) (s := s) (u := u) (m := m) (t := t) (l := l) (d := 1) (Or.inr rfl) (by omega) with ⟨e1, z, hz, he⟩ | ⟨M1, w1, T1, he, sk, q, cd⟩
  · rw [he, xbc_l, if_pos (by omega)]; exact ar_no h (by omega)
  · have c2 := h0.1.2.2.1
    have e4 : M1 400 = M 400 := sk.2.2.2.2 400 (by omega)
    have hx1 := sk.cx hx
    have i1 := hx1.2.2.1.1
    obtain ⟨δ, d1, d2⟩ := cnt_ok hx1 h0 q (by rw [e4]; exact hc.2.2.1) (by rw [e4]; exact hc.2.2.2.1)
    have c13 := i1.1.2.2.2.1
    have k0 := h0.1.2.2.2.1
    obtain ⟨q1, q2, q3, q4, q5⟩ := id q
    rw [he, xbc_l, if_neg (by omega)]
    refine Eq.subst (motive := fun F => AR F M w n) (d1 (fun δ x M5 => fL_instruct_198 0 400 y a b s u m t l (w 1542) δ x 3 400 M5)).symm ?_
    show AR (fL_instruct_198 0 400 y a b s u m t l (w 1542) δ (w 1543) 3 400 _) M w n
    obtain ⟨v, r, lv⟩ := low_ok (xshr y 13) (show (0 : Int) < 4 by omega)
    unfold fL_instruct_198
    rw [xix_t (by omega) (by omega), xput_b, lv, xb_l, d2, w32_i (x := w1 1543) (by omega) (by omega)]
    have hx2 := (hx1.up (N := 400) (k := 2) (v := w1 1542) (by omega)).up (N := 400) (k := (3 : Int).toNat) (v := w1 1543) (by omega)
    have t2 := t14 i1
    rcases ins1 hx2 (a := b) (b := a) (s := s) (u := u) (m := w32 (m + v)) (t := t) (l := l) (d := 0) (Or.inl rfl) (by omega) with ⟨e1, -, -, -⟩ | ⟨M2, w2, T2, he2, sk2, p, -⟩
    · exfalso
      have g1 := (and_tt cd).1
      have g2 := and_tt (and_tt g1).1
      have g3 := and_tt g2.2
      have g4 := and_tt (and_tt g1).2
      have g5 := and_tt g4.2
      have g6 := and_tt g5.2
      have g7 := and_tt g6.2
      have nab : a ≠ b := of_decide_eq_true g4.1
      have e2 : rg (w32 (m + v)) 0 100000000 = true := by unfold rg; rw [w32_i (by omega) (by omega), decide_eq_true (by omega), decide_eq_true (by omega)]; rfl
      unfold inT at e1
      rw [q2 1540 (by omega), q2 1541 (by omega), q2 1547 (by omega), g2.1, g3.1, g3.2, g5.1, e2, g7.1, g7.2, decide_eq_true (show b ≠ a from fun z => nab z.symm), decide_eq_true (show w1 1542 < 40 by omega)] at e1
      exact absurd e1 (by decide)
    · obtain ⟨p1, p2, p3, p4, p5⟩ := id p
      have e5 : M2 400 = (xup (xup M1 400 2 (w1 1542)) 400 (3 : Int).toNat (w1 1543)) 400 := sk2.2.2.2.2 400 (by omega)
      have hx3 := sk2.cx hx2
      have i2 := hx3.2.2.1.1
      obtain ⟨δ2, d3, d4⟩ := cnt_ok hx3 i1 p (by rw [e5, xup_k (by decide)]; exact xup_same) (by rw [e5]; exact xup_same)
      have t3 := t14 i2
      rw [he2, xbc_l, show w32 (w 1542 + 1) = w1 1542 by rw [w32_i (by omega) (by omega)]; omega, if_pos rfl]
      refine Eq.subst (motive := fun F => AR F M w n) (d3 (fun δ x M5 => fL_instruct_269 (w 1542) δ x 3 400 M5)).symm ?_
      show AR (fL_instruct_269 (w 1542) δ2 (w1 1543) 3 400 _) M w n
      unfold fL_instruct_269
      rw [xix_t (by omega) (by omega), xput_b, d4, w32_i (x := w2 1543) (by omega) (by omega)]
      have fq : ∀ j, j < 10 ∨ (80 ≤ j ∧ j < 90) ∨ j = 1540 ∨ j = 1541 ∨ j = 1546 ∨ j = 1547 → w2 j = w j := fun j hj => (p2 j (by omega)).trans (q2 j (by omega))
      refine ⟨w 1542, _, w2, T2, rfl, by omega, ⟨(hx3.up (by omega)).up (by omega), ⟨?_, ?_, ?_, ?_, ?_⟩, by rw [fq _ (by omega)]; exact a1, by rw [fq _ (by omega)]; exact a2, ⟨k + 1, by omega, by omega⟩, by rw [fq _ (by omega)]; exact a4, by rw [fq _ (by omega)]; exact a5, p4 (q4 a6), p5 (q5 a7), ?_⟩, fun _ z => absurd z (by omega), fq _ (by omega), fun c hc => ?_⟩
      · rw [xup_k (by decide), xup_k (by decide), e5, xup_k (by decide), xup_k (by decide), e4]; exact hc.1
      · rw [xup_k (by decide), xup_k (by decide), e5, xup_k (by decide), xup_k (by decide), e4]; exact hc.2.1
      · rw [xup_k (by decide)]; exact xup_same
      · exact xup_same
      · rw [xup_k (by decide), xup_k (by decide), e5, xup_k (by decide), xup_k (by decide), e4, fq _ (by omega)]; exact hc.2.2.2.2
      · rw [sm_eq (g := fun a => w (80 + a)) 6 (fun a ha => fq _ (by omega))]; exact a8
      · rw [xup_row (by omega), xup_row (by omega), sk2.2.2.2.2 c (by omega), xup_row (by omega), xup_row (by omega)]; exact sk.2.2.2.2 c (by omega)
theorem ar_ins {M : xM} {w T : Nat → Int} {n : Nat} (h : LI M w T n) (y : Int) : AR (fL_act_88 0 400 y M) M w n := by
  obtain ⟨hx, hc, hw⟩ := id h
  have hd := hx.2.2.1.1.1.2.2.2.2.2.2.2
  have hret : ∀ F : xO, AR F M w n → AR (xb F (fun z1 M2 => (xret z1 M2))) M w n := fun F ⟨z, M1, w1, T1, e, k⟩ => ⟨z, M1, w1, T1, by rw [e, xb_l]; rfl, k⟩
  unfold fL_act_88
  refine hret _ ?_
  unfold fL_instruct
  by_cases z1 : 28 ≤ M 400 2
  · rw [if_pos z1]; exact ar_no h (by omega)
  · rw [if_neg z1]
    by_cases z2 : M 400 3 = 14
    · rw [if_pos z2]; exact ar_no h (by omega)
    · rw [if_neg z2]
      have h28 : w 1542 < 28 := by rw [hc.2.2.1] at z1; omega
      obtain ⟨v1, r1, l1⟩ := low_ok y (show (0 : Int) < M 400 0 by rw [hc.1]; omega)
      obtain ⟨v2, r2, l2⟩ := low_ok (xshr y 3) (show 0 < w32 (M 400 0 + 1) by rw [hc.1]; decide)
      obtain ⟨v3, r3, l3⟩ := low_ok (xshr y 9) (show (0 : Int) < 31 by omega)
      obtain ⟨v4, r4, l4⟩ := low_ok (xshr y 5) (show (0 : Int) < M 400 1 by rw [hc.2.1]; omega)
      obtain ⟨v5, r5, l5⟩ := low_ok (xshr y 6) (show (0 : Int) < 60 by omega)
      obtain ⟨v6, r6, l6⟩ := low_ok (xshr y 8) (show (0 : Int) < 900 by omega)
      obtain ⟨v7, r7, l7⟩ := low_ok (xshr y 10) (show (0 : Int) < 3 by omega)
      obtain ⟨v8, r8, l8⟩ := low_ok (xshr y 12) (show (0 : Int) < 19 by omega)
      obtain ⟨v9, r9, l9⟩ := low_ok (xshr y 11) (show (0 : Int) < 3 by omega)
      obtain ⟨v0, r0, l0⟩ := low_ok (xshr y 12) (show (0 : Int) < 9 by omega)
      rw [l1, xb_l, l2, xb_l, l3, xb_l, xlet_b, l4, xb_l, l5, xb_l, xlet_b, l6, xb_l, c_day hx.1, xb_l, l7, xb_l, l8, xb_l, xlet_b, l9, xb_l]
      by_cases z3 : v9 = 0
      · rw [if_pos z3, l0, xb_l]; exact ar_in h y _ _ _ _ _ _ _ (by omega) h28
      · rw [if_neg z3]; exact ar_in h y _ _ _ _ _ _ _ (by omega) h28
theorem ar_act {M : xM} {w T : Nat → Int} {n : Nat} (h : LI M w T n) (y : Int) {x : Int} (hx0 : 0 ≤ x) : AR (fL_act 0 400 y x M) M w n := by
  obtain ⟨hx, hc, hw⟩ := id h
  obtain ⟨nT, nI, hT, h14, hI, h28⟩ := h.cnt
  have h5 := hx.2.2.1.1.1.2.2.2.2.2.1
  obtain ⟨v1, r1, l1⟩ := low_ok y (show 0 < w32 (M 400 0 + 1) by rw [hc.1]; decide)
  obtain ⟨v2, r2, l2⟩ := low_ok (xshr y 9) (show (0 : Int) < 31 by omega)
  obtain ⟨v3, r3, l3⟩ := low_ok (xshr y 2) (show 0 < w32 (M 400 2 + 1) by rw [hc.2.2.1, hI, w32_i (by omega) (by omega)]; omega)
  unfold fL_act
  rw [l1, xb_l, l2, xb_l, xlet_b, l3, xb_l]
  have a4 : AR (fL_act_95 0 400 y (w32 (v1 - Int.tdiv v2 30)) M) M w n := by
    obtain ⟨v4, r4, l4⟩ := low_ok (xshr y 4) (show 0 < w32 (M 400 1 + 1) by rw [hc.2.1]; decide)
    obtain ⟨v5, r5, l5⟩ := low_ok (xshr y 6) (show (0 : Int) < 40 by omega)
    unfold fL_act_95
    rw [l4, xb_l, l5, xb_l]; exact ar_bl h _ _ _
  have a5 : AR (fL_act_125 0 y v3 M) M w n := by
    obtain ⟨v4, r4, l4⟩ := low_ok (xshr y 8) (show (0 : Int) < 3 by omega)
    unfold fL_act_125
    rw [l4, xb_l]
    by_cases z : v4 = 0
    · rw [if_pos z]; exact ar_ca h _
    · rw [if_neg z]; exact ar_ho h _
  have a6 : AR (fL_act_152 0 400 y M) M w n := by
    obtain ⟨v4, r4, l4⟩ := low_ok (xshr y 3) (show 0 < w32 (M 400 3 + 1) by rw [hc.2.2.2.1, hT, w32_i (by omega) (by omega)]; omega)
    obtain ⟨v5, r5, l5⟩ := low_ok (xshr y 6) (show 0 < w32 (M 400 3 + 1) by rw [hc.2.2.2.1, hT, w32_i (by omega) (by omega)]; omega)
    obtain ⟨v6, r6, l6⟩ := low_ok (xshr y 9) (show (0 : Int) < 2 by omega)
    unfold fL_act_152 fL_act_192
    rw [l4, xb_l, l5, xb_l, l6, xb_l]
    by_cases z : v6 = 0
    · rw [if_pos z]; exact ar_li h _ _ (Or.inr rfl)
    · rw [if_neg z]; exact ar_li h _ _ (Or.inl rfl)
  have a7 : AR (fL_act_196 0 y M) M w n := by
    obtain ⟨v4, r4, l4⟩ := low_ok y (show 0 < w32 (w 1545 + 1) by rw [w32_i (by omega) (by omega)]; omega)
    unfold fL_act_196
    rw [c_lns hx.1, xb_l, l4, xb_l]; exact ar_rc h _
  have a8 := ar_an h y
  have a9 := ar_pr h y
  have a0 := ar_ins h y
  unfold xsw
  by_cases z : x < 0 ∨ 8 < x
  · rw [if_pos z]; exact a9
  · rw [if_neg z]
    have hx9 : x = 0 ∨ x = 1 ∨ x = 2 ∨ x = 3 ∨ x = 4 ∨ x = 5 ∨ x = 6 ∨ x = 7 ∨ x = 8 := by omega
    rcases hx9 with rfl | rfl | rfl | rfl | rfl | rfl | rfl | rfl | rfl
    · exact a0
    · exact a0
    · exact a0
    · exact a0
    · exact a4
    · exact a5
    · exact a6
    · exact a7
    · exact a8
