/-! a turn of the law -/
def OK1 (F : xO) : Prop := ∃ M1, F = some (.inl 1, M1)
def HR (rc : Int → Nat → xM → xO) (e : Int) (n N : Nat) (d : Int) : Prop := ∀ (N' : Nat) (M' : xM) (w' T' : Nat → Int) (n' : Nat), LI M' w' T' n' → n' ≤ n → 401 ≤ N' → N' ≤ N → w' 1547 ≤ d → OK1 (rc e N' M')
theorem LI.cy {M M1 : xM} {w T w1 T1 : Nat → Int} {n : Nat} (h : LI M w T n) (s : Sk M M1 w1 T1 n) (q : cyQ w w1) : LI M1 w1 T1 (n + 1) ∧ w64 (sm (fun a => w1 (30 + a)) 6) = w64 (sm (fun a => w (30 + a)) 6) ∧ w1 1547 = w 1547 := by
  obtain ⟨⟨q1, q2⟩, q3⟩ := q
  refine ⟨h.st s ⟨fun j hj => q3 j (by omega), fun i hi hz y => by rw [q2 i hi hz] at y; exact y⟩, q1 6 h.2.2.1, q3 _ (by omega)⟩
theorem LI.ed {M M1 : xM} {w T w1 T1 : Nat → Int} {n : Nat} (h : LI M w T n) (s : Sk M M1 w1 T1 n) (q : QD w w1) : LI M1 w1 T1 (n + 1) := by
  obtain ⟨hx, hc, a1, a2, ⟨k, a3, a3'⟩, a4, a5, a6, a7, a8⟩ := h
  have h0 := hx.2.2.1.1
  obtain ⟨q1, q2, q3⟩ := q
  refine ⟨s.cx hx, (hc.fr (s.2.2.2.2 400 (by omega))).w (q3 _ (by omega)) (q3 _ (by omega)) (q3 _ (by omega)), by rw [q3 _ (by omega)]; exact a1, by rw [q3 _ (by omega)]; exact a2, ⟨k, by rw [q3 _ (by omega)]; exact a3, a3'⟩, by rw [q3 _ (by omega)]; exact a4, by rw [q3 _ (by omega)]; exact a5, a6.fr h0 (fun j hj => q3 j (by omega)), a7.fr (fun j hj => q3 j (by omega)) (fun i hi hz y => by rw [q2 i hi hz] at y; exact y), ?_⟩
  rw [q1 6 a1]; exact a8
theorem rw133_55 (w : Nat → Int) : ∀ k t r, rw133 w k t r 55 = w 1547
  | 0, _, r => by unfold rw133; rw [ups_ne (by decide), ups_ne (by decide), ups_same]
  | k + 1, t, r => by unfold rw133; exact rw133_55 w k (t + 1) _
theorem rw99_55 (w : Nat → Int) : ∀ k t r, rw99 w k t r 55 = w 1547
  | 0, _, r => by unfold rw99; exact rw133_55 w _ 0 r
  | k + 1, t, r => by unfold rw99; exact rw99_55 w k (t + 1) _
theorem rw7_55 (w : Nat → Int) : ∀ k t r, rw7 w k t r 55 = w 1547
  | 0, _, r => by unfold rw7; exact rw99_55 w _ 0 r
  | k + 1, t, r => by unfold rw7; exact rw7_55 w k (t + 1) _
theorem TR_55 (w : Nat → Int) : TR w 55 = w 1547 := rw7_55 w 6 0 _
theorem KP.frn {M M1 : xM} {w : Nat → Int} {N : Nat} (h : KP M w) (hN : 401 ≤ N) (f : FRn N M M1) : KP M1 w := by
  have e : ∀ c, 3 ≤ c → c < 195 → kp M1 c = kp M c := fun c h1 h2 => by
    funext k; show M1 (c + 196) k = M (c + 196) k
    rw [f (c + 196) (by omega) (by omega)]
  exact ⟨by rw [f 0 (by omega) (by omega)]; exact h.1, h.2.1.fr e, h.2.2.frM e⟩
section TURN
variable {sl : Nat} {sx : Nat → Int32} {rc : Int → Nat → xM → xO} {e x : Int} {n1 N1 : Nat} {d1 : Int}
theorem tn_495 (H : HR rc (w32 (e + 1)) n1 N1 d1) (h500 : n1 ≤ 500) {M : xM} {w T : Nat → Int} {n N : Nat} (h : LI M w T n) (hn : n ≤ n1) (hN : 401 ≤ N) (hN1 : N ≤ N1) (hd : w 1547 ≤ d1) : OK1 (fL_law_495 sl sx rc 0 400 e x N M) := by
  obtain ⟨v, r, l⟩ := low_ok x (show (0 : Int) < 3 by omega)
  unfold fL_law_495 fL_law_514
  rw [l, xbc_l]
  by_cases z : v = 0
  · obtain ⟨M1, a1, a2, a3⟩ := asks_ok h (by omega)
    rw [if_pos z, a1, xbc_l, if_neg (by decide)]
    exact H N M1 w T n a2 hn hN hN1 hd
  · rw [if_neg z]
    exact H N M w T n h hn hN hN1 hd
theorem tn_435 (H : HR rc (w32 (e + 1)) n1 N1 d1) (h500 : n1 ≤ 500) (hN9 : N1 < 900000) (hd9 : d1 < 2000) {M : xM} {w T : Nat → Int} {n N : Nat} (h : LI M w T n) (hn : n + 2 ≤ n1) (hN : 401 ≤ N) (hN1 : N + 2 ≤ N1) (hd : w 1547 ≤ d1) : OK1 (fL_law_435 sl sx rc 0 400 e x N M) := by
  obtain ⟨v, r, l⟩ := low_ok x (show (0 : Int) < 5 by omega)
  unfold fL_law_435
  rw [l, xbc_l]
  by_cases z : v = 0
  · obtain ⟨Ma, a1, a2, a3, a4⟩ := kop_keep h.1
    have ha : LI Ma w T n := h.fr a2 (a4 400 (by omega))
    rw [if_pos z, a1, xbc_l]
    obtain ⟨Mb, b1, b2, b3, b4⟩ := tell_ok (N := N) ha (by omega) hN (by omega) (fun M6 => xbc (fX11_cycle 0 M6) (fun z7 M8 => xbc (fX11_endDay 0 M8) (fun z9 M10 => xbc (fX11_goBack 0 M10) (fun z11 M12 => xix 55 60 ((if z11 = (w64 (M12 N 55)) then xtell (N + 1) (fL_tell 0 400) M12 (fun M14 => xbc (fL_same N (N + 1) M14) (fun z15 M16 => (if z15 = 0 then (xret 0 M16) else (fL_law_495 sl sx rc 0 400 e x ((N + 1) + 1) M16))) (fun _ _ => none)) else (xret 0 M12)))) (fun _ _ => none)) (fun _ _ => none)) (fun _ _ => none))
    rw [b1]
    have kb : KP Mb w := a3.frn hN b4
    obtain ⟨vc, Mc, wc, Tc, c1, c2, c3, c4⟩ := kop_cycle b2.1 (by omega)
    obtain ⟨hc, -, c5⟩ := b2.cy c2 c4
    rw [c1, xbc_l]
    obtain ⟨vd, Md, wd, Td, d1', d2, d3, d4, d5⟩ := kop_endDay hc.1 (by omega) (by omega)
    have hdd := hc.ed d2 d4
    rw [d1', xbc_l]
    have kd : KP Md w := (kb.fr c2.2.2.2.2).fr d2.2.2.2.2
    obtain ⟨Me, e1, e2, e3⟩ := kop_goBack hdd.1 kd (h.1.2.2.1.mono (by omega))
    have r4 : ∀ c, 400 ≤ c → Me c = Mb c := fun c hc => by rw [e3 c hc, d2.2.2.2.2 c (by omega), c2.2.2.2.2 c (by omega)]
    have he : LI Me w Td (n + 2) := ⟨e2, b2.2.1.fr (r4 400 (by omega)), h.2.2⟩
    have hday := h.1.2.2.1.1.1.2.2.2.2.2.2.2
    rw [e1, xbc_l, xix_t (by omega) (by omega), r4 N (by omega), b3, TR_55, w64_i (by omega) (by omega), if_pos rfl]
    obtain ⟨Mf, f1, f2, f3, f4⟩ := tell_ok (N := N + 1) he (by omega) (by omega) (by omega) (fun M14 => xbc (fL_same N (N + 1) M14) (fun z15 M16 => (if z15 = 0 then (xret 0 M16) else (fL_law_495 sl sx rc 0 400 e x ((N + 1) + 1) M16))) (fun _ _ => none))
    rw [f1, same_ok (by rw [f3, f4 N (by omega) (by omega), r4 N (by omega), b3]), xbc_l, if_neg (by decide)]
    exact tn_495 H h500 f2 (by omega) (by omega) (by omega) hd
  · rw [if_neg z]
    exact tn_495 H h500 h (by omega) hN (by omega) hd
theorem tn_398 (H : HR rc (w32 (e + 1)) n1 N1 d1) (h500 : n1 ≤ 500) (hN9 : N1 < 900000) (hd9 : d1 < 2000) {M : xM} {w T : Nat → Int} {n N : Nat} {k : Int} (h : LI M w T n) (hn : n + 3 ≤ n1) (hN : 401 ≤ N) (hN1 : N + 2 ≤ N1) (hd : w 1547 + 1 ≤ d1) : OK1 (fL_law_398 sl sx rc 0 400 e x k N M) := by
  unfold fL_law_398
  by_cases z : k = 13
  · obtain ⟨vd, Md, wd, Td, d1', d2, d3, d4, d5⟩ := kop_endDay h.1 (by omega) (by omega)
    have hdd := h.ed d2 d4
    have hday := h.1.2.2.1.1.1.2.2.2.2.2.2.2
    rw [if_pos z, c_day h.1.1, xbc_l, d1', xbc_l, if_neg (by omega), c_day hdd.1.1, xbc_l, d5, w32_i (by omega) (by omega), if_pos rfl]
    exact tn_435 H h500 hN9 hd9 hdd (by omega) hN hN1 (by omega)
  · rw [if_neg z]
    exact tn_435 H h500 hN9 hd9 h (by omega) hN hN1 (by omega)
theorem tn_353 (H : HR rc (w32 (e + 1)) n1 N1 d1) (h500 : n1 ≤ 500) (hN9 : N1 < 900000) (hd9 : d1 < 2000) {M : xM} {w T : Nat → Int} {n N : Nat} {k : Int} (h : LI M w T n) (hn : n + 4 ≤ n1) (hN : 401 ≤ N) (hN1 : N + 2 ≤ N1) (hd : w 1547 + 1 ≤ d1) : OK1 (fL_law_353 sl sx rc 0 400 e x k N M) := by
  have a : OK1 (fL_law_398 sl sx rc 0 400 e x k N M) := tn_398 H h500 hN9 hd9 h (by omega) hN hN1 hd
  have b : OK1 (fL_law_367 sl sx rc 0 400 e x k N M) := by
    obtain ⟨vc, Mc, wc, Tc, c1, c2, c3, c4⟩ := kop_cycle h.1 (by omega)
    obtain ⟨hc, c6, c5⟩ := h.cy c2 c4
    unfold fL_law_367
    rw [cash_ok h, xbc_l, c1, xbc_l, if_neg (by omega), cash_ok hc, xbc_l, if_pos c6]
    exact tn_398 H h500 hN9 hd9 hc (by omega) hN hN1 (by omega)
  unfold fL_law_353
  by_cases z : k = 11
  · rw [if_pos z]; exact b
  · rw [if_neg z]
    by_cases z2 : k = 12
    · rw [if_pos z2]; exact b
    · rw [if_neg z2]; exact a
theorem tn_316 (H : HR rc (w32 (e + 1)) n1 N1 d1) (h500 : n1 ≤ 500) (hN9 : N1 < 900000) (hd9 : d1 < 2000) {M : xM} {w T : Nat → Int} {n N x6 : Nat} {k s0 : Int} (h : LI M w T n) (hs : s0 ≠ -100) (ht : -9 < s0 → s0 < -1 → M x6 = TR w) (h6 : 401 ≤ x6) (h6N : x6 < N) (hn : n + 4 ≤ n1) (hN1 : N + 3 ≤ N1) (hd : w 1547 + 1 ≤ d1) : OK1 (fL_law_316 sl sx rc 0 400 e x x6 k s0 N M) := by
  unfold fL_law_316
  rw [if_neg hs]
  by_cases z1 : -1 ≤ s0
  · rw [if_pos z1]; exact tn_353 H h500 hN9 hd9 h hn (by omega) (by omega) hd
  · rw [if_neg z1]
    by_cases z2 : s0 ≤ -9
    · rw [if_pos z2]; exact tn_353 H h500 hN9 hd9 h hn (by omega) (by omega) hd
    · rw [if_neg z2]
      obtain ⟨Mf, f1, f2, f3, f4⟩ := tell_ok (N := N) h (by omega) (by omega) (by omega) (fun M2 => xbc (fL_same x6 N M2) (fun z3 M4 => (if z3 = 0 then (xret 0 M4) else (fL_law_353 sl sx rc 0 400 e x k (N + 1) M4))) (fun _ _ => none))
      rw [f1, same_ok (by rw [f3, f4 x6 (by omega) (by omega), ht (by omega) (by omega)]), xbc_l, if_neg (by decide)]
      exact tn_353 H h500 hN9 hd9 f2 hn (by omega) (by omega) hd
end TURN
theorem op_ref {M : xM} {w T : Nat → Int} {n : Nat} (h : LI M w T n) : (∃ z, (z = -2 ∨ z = -3 ∨ z = -4) ∧ fL_opens 0 2 1 0 0 0 M = some (.inl z, M)) ∧ ∃ z, (z = -2 ∨ z = -3 ∨ z = -4) ∧ fL_opens 0 (-1) 1 3 0 0 M = some (.inl z, M) := by
  obtain ⟨hx, hc, hw⟩ := id h
  have hC := hx.2.2.1.1.1
  unfold fL_opens
  refine ⟨⟨-4, by omega, ?_⟩, ⟨-3, by omega, ?_⟩⟩
  · have e1 : oOk w 2 = true := by unfold oOk inb; rw [hw.1]; decide
    have e2 : oSt w 2 = false := by unfold oSt; rw [show w (2 : Int).toNat = 1 from hw.2.2.2.2.1]; rfl
    rw [cs_open hx.1 hC, e1, if_t, show (rg 0 0 2 && (rg 0 0 1000000 && rg 0 0 1000000)) = true by decide, if_t, e2, if_f]; rfl
  · have e1 : oOk w (-1) = true := by unfold oOk; rfl
    rw [cs_open hx.1 hC, e1, if_t, show (rg 3 0 2 && (rg 0 0 1000000 && rg 0 0 1000000)) = false by decide, if_f]; rfl
theorem last_ok {sl : Nat} {sx : Nat → Int32} {M : xM} {w T : Nat → Int} {n N m : Nat} (h : LI M w T n) (hn5 : n ≤ 500) : OK1 (fL_law_208 sl sx 0 400 (m + 1) 26 N M) := by
  obtain ⟨M1, a1, a2, a3⟩ := asks_ok h hn5
  obtain ⟨hx, hc, hw⟩ := id a2
  obtain ⟨hC, hA, hS, hH, hI, hT, hK, hL, hE⟩ := hx.2.2.1.1
  have e1 : fL_cancels 0 (w 1542) M1 = some (.inl (-2), M1) := by
    unfold fL_cancels fX11_cancel
    rw [c_needI hx.1, inb_o (Or.inr (Int.le_refl _))]; rfl
  have e2 : fL_holds 0 (-1) M1 = some (.inl (-2), M1) := by
    unfold fL_holds
    rw [cs_hold hx.1 hC hI, inb_o (Or.inl (by decide))]; rfl
  have e3 : fL_recalls 0 (w 1545) M1 = some (.inl (-2), M1) := by
    unfold fL_recalls
    rw [cs_recall hx.1 hC hL, inb_o (Or.inr (Int.le_refl _))]; rfl
  have e4 : fL_blocks 0 6 0 0 M1 = some (.inl (-2), M1) := by
    unfold fL_blocks
    rw [cs_block hx.1 hC, inb_o (Or.inr (by rw [hw.1]; decide))]; rfl
  have e5 : fL_announces 0 3 0 1 1 (w 1547) M1 = some (.inl (-3), M1) := by
    unfold fL_announces
    rw [cs_announce hx.1 hC, show inb 0 (w 1541) = true by rw [hw.2.1]; decide, if_t, show ∀ r p, aRg w 3 1 1 20 r p = false from fun r p => rfl, if_f]; rfl
  have e6 : fL_issues 0 6 1 1 M1 = some (.inl (-2), M1) := by
    unfold fL_issues
    rw [cs_issue hx.1 hx.2.1 hC, inb_o (Or.inr (by rw [hw.1]; decide))]; rfl
  refine ⟨M1, ?_⟩
  rw [fL_law_208, if_pos (by decide), a1, xbc_l, if_neg (by decide), hc.2.2.1, e1, xbc_l, if_pos rfl, e2, xbc_l, if_pos rfl, c_lns hx.1, xbc_l, e3, xbc_l, if_pos rfl, e4, xbc_l, if_pos rfl, c_day hx.1, xbc_l, e5, xbc_l, if_pos rfl, e6, xbc_l, if_pos rfl]; rfl
theorem turns_ok {sl : Nat} {sx : Nat → Int32} : ∀ (k e m : Nat) (M : xM) (w T : Nat → Int) (n N : Nat), e + k = 26 → k < m → LI M w T n → n ≤ 14 + 7 * e → 401 ≤ N → N ≤ 401 + 4 * e → w 1547 ≤ (e : Int) → OK1 (fL_law_208 sl sx 0 400 m (e : Int) N M)
  | _, _, 0, _, _, _, _, _, _, hm, _, _, _, _, _ => absurd hm (Nat.not_lt_zero _)
  | 0, e, m + 1, M, w, T, n, N, hk, _, h, hn, _, _, _ => by
    have : e = 26 := by omega
    subst this
    exact last_ok h (by omega)
  | k + 1, e, m + 1, M, w, T, n, N, hk, hm, h, hn, hN, hN1, hd => by
    have H : HR (fL_law_208 sl sx 0 400 m) (w32 ((e : Int) + 1)) (14 + 7 * (e + 1)) (401 + 4 * (e + 1)) ((e : Int) + 1) := fun N' M' w' T' n' hh h1 h2 h3 h4 => by
      rw [w32_s (by omega)]
      exact turns_ok k (e + 1) m M' w' T' n' N' (by omega) (by omega) hh h1 h2 h3 (by omega)
    obtain ⟨x, lx⟩ := cell_ok sl sx (x := w32 (8 + w32 (2 * (e : Int)))) (by rw [w32_i (x := 2 * (e : Int)) (by omega) (by omega), w32_i (by omega) (by omega)]; omega)
    obtain ⟨y, ly⟩ := cell_ok sl sx (x := w32 (9 + w32 (2 * (e : Int)))) (by rw [w32_i (x := 2 * (e : Int)) (by omega) (by omega), w32_i (by omega) (by omega)]; omega)
    obtain ⟨kd, rk, lk⟩ := low_ok (xshr x 3) (show (0 : Int) < 14 by omega)
    obtain ⟨v2, r2, l2⟩ := low_ok y (show (0 : Int) < 2 by omega)
    rw [fL_law_208, if_neg (by omega), lx, xbc_l, ly, xbc_l]
    obtain ⟨M1, b1, b2, b3, b4⟩ := tell_ok (N := N) h (by omega) hN (by omega) (fun M24 => xbc (fL_low (xshr x 3) 14 M24) (fun z25 M26 => (if z25 = 9 then xbc (fL_low y 2 M26) (fun z27 M28 => (if z27 = 0 then xbc (fL_opens 0 2 1 0 0 0 M28) (fun z29 M30 => (fL_law_316 sl sx (fL_law_208 sl sx 0 400 m) 0 400 (e : Int) x N z25 z29 (N + 1) M30)) (fun _ _ => none) else xbc (fL_opens 0 (-1) 1 3 0 0 M28) (fun z31 M32 => (fL_law_316 sl sx (fL_law_208 sl sx 0 400 m) 0 400 (e : Int) x N z25 z31 (N + 1) M32)) (fun _ _ => none))) (fun _ _ => none) else (if 11 ≤ z25 then (fL_law_316 sl sx (fL_law_208 sl sx 0 400 m) 0 400 (e : Int) x N z25 0 (N + 1) M26) else xbc (fL_act 0 400 y z25 M26) (fun z33 M34 => (fL_law_316 sl sx (fL_law_208 sl sx 0 400 m) 0 400 (e : Int) x N z25 z33 (N + 1) M34)) (fun _ _ => none)))) (fun _ _ => none))
    rw [b1, lk, xbc_l]
    have go : ∀ z : Int, AR (some (.inl z, M1)) M1 w n → OK1 (fL_law_316 sl sx (fL_law_208 sl sx 0 400 m) 0 400 (e : Int) x N kd z (N + 1) M1) := fun z ⟨z', M2, w2, T2, q1, q2, q3, q4, q5, q6⟩ => by
      cases q1
      exact tn_316 H (by omega) (by omega) (by omega) q3 q2 (fun a b => by rw [q6 N hN, b3, q4 a b]) hN (by omega) (by omega) (by omega) (by omega)
    by_cases z9 : kd = 9
    · rw [if_pos z9, l2, xbc_l]
      obtain ⟨⟨p1, p2, p3⟩, ⟨p4, p5, p6⟩⟩ := op_ref b2
      by_cases z0 : v2 = 0
      · rw [if_pos z0, p3, xbc_l]; exact go p1 (ar_no b2 (by omega))
      · rw [if_neg z0, p6, xbc_l]; exact go p4 (ar_no b2 (by omega))
    · rw [if_neg z9]
      by_cases z11 : 11 ≤ kd
      · rw [if_pos z11]; exact go 0 (ar_no b2 (by omega))
      · obtain ⟨z, M2, w2, T2, q1, q2, q3, q4, q5, q6⟩ := ar_act b2 y (x := kd) (by omega)
        rw [if_neg z11, q1, xbc_l]
        exact tn_316 H (by omega) (by omega) (by omega) q3 q2 (fun a b => by rw [q6 N hN, b3, q4 a b]) hN (by omega) (by omega) (by omega) (by omega)
