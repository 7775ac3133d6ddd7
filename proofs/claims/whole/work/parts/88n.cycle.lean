-- the cycle
theorem loans {c : Nat → Nat} {q : Nat} (hq : q ≤ 10) : ∀ (k i : Nat) (M : xM) (x T : Nat → Int) (N : Int), i + k = q → SS M x T → Inv0 x → IM N x → 0 ≤ N → N + k * 61000000000000 ≤ 3900000000000000000 → CF M c q → (∀ k, k < q → (c k : Int) < x 1543) → ∃ (M' : xM) (x' T' : Nat → Int) (d : Int), (0 ≤ d ∧ d ≤ k) ∧ (∀ (n : Nat) (v : Int), k < n → 0 ≤ v → v + k ≤ 100 → fX2_settleByLoans_4 395 n v (i : Int) M = some (.inl (v + d), M')) ∧ SS M' x' T' ∧ fl M M' ∧ Inv0 x' ∧ IM (N + k * 61000000000000) x' ∧ (∀ (X : xM) (h v : Int) (n : Nat), k < n → CM X c q → 0 ≤ v → v + k ≤ 100 → fX12_cycle_69 400 n v (i : Int) (st X x T h) = fX12_cycle_126 400 (v + d) xN 0 (st X x' T' h)) ∧ cyF x x' := by
  intro k
  induction k with
  | zero =>
    intro i M x T N hk hS h0 hM hN0 hN hF hc
    refine ⟨M, x, T, 0, by omega, fun n v hn v0 v1 => ?_, hS, (fz.refl M).l, h0, hM.mono (by omega), fun X h v n hn hX v0 v1 => ?_, fun _ _ => rfl⟩
    · obtain ⟨m, rfl⟩ : ∃ m, n = m + 1 := ⟨n - 1, by omega⟩
      rw [fX2_settleByLoans_4, hF.1, if_pos (by omega), Int.add_zero]; rfl
    · obtain ⟨m, rfl⟩ : ∃ m, n = m + 1 := ⟨n - 1, by omega⟩
      rw [fX12_cycle_69, st_k (by omega), hX.1, if_pos (by omega), Int.add_zero]
  | succ k ih =>
    intro i M x T N hk hS h0 hM hN0 hN hF hc
    obtain ⟨M1, x1, T1, d1, ad, a1, a2, a3, a4, a5, a6, a7⟩ := loan_step hS h0 hM hN0 (by omega) hF hq (i := i) (by omega) (hc i (by omega))
    obtain ⟨M2, x2, T2, d2, bd, b1, b2, b3, b4, b5, b6, b7⟩ := ih (i + 1) M1 x1 T1 (N + 61000000000000) (by omega) a2 a4 a5 (by omega) (by omega) (hF.l a3) (fun k hk => by rw [a7 1543 (by omega)]; exact hc k hk)
    refine ⟨M2, x2, T2, d1 + d2, by omega, fun n v hn v0 v1 => ?_, b2, a3.trans b3, b4, b5.mono (by omega), fun X h v n hn hX v0 v1 => ?_, a7.trans b7⟩
    · obtain ⟨m, rfl⟩ : ∃ m, n = m + 1 := ⟨n - 1, by omega⟩
      rw [a1 m v v0 (by omega), b1 m (v + d1) (by omega) (by omega) (by omega), Int.add_assoc]
    · obtain ⟨m, rfl⟩ : ∃ m, n = m + 1 := ⟨n - 1, by omega⟩
      rw [a6 X h v m hX v0 (by omega), b6 X h (v + d1) m (by omega) hX (by omega) (by omega), Int.add_assoc]
theorem SS.fh {M M' : xM} {x T : Nat → Int} (hS : SS M x T) (hR : R M' x) (h : fh M M') : SS M' x T :=
  ⟨hR, hS.2.1.fr (by rw [h 3 (by omega) (by omega) (by omega) (by omega)]) (fun a ha => h _ (by omega) (by omega) (by omega) (by omega)) (fun e he => by rw [h _ (by omega) (by omega) (by omega) (by omega)]) (fun _ _ _ => rfl) (fun _ _ => rfl) (fun _ _ _ => rfl) (fun _ _ _ => rfl), fun a ha => by rw [h 2 (by omega) (by omega) (by omega) (by omega)]; exact hS.2.2 a ha⟩
theorem op_cycle {M : xM} {n : Nat} (hn5 : n < 512) (hr : Rel M n) : OK0 (fX11_cycle 0 M) (fX12_cycle 400) (n + 1) := by
  obtain ⟨hR, hV, ⟨h0, hY, hM⟩, hO, -⟩ := id hr
  have c5 := h0.1.2.2.2.2.2.1
  obtain ⟨nL, hnL⟩ := ex_nat c5.1
  obtain ⟨M1, w1, a1, a2, a3, a4, a5, a6, a7⟩ := gbs nL 0 M (M 401) (M 403) ((n : Int) * 7000000000000000) (by omega) ⟨hR, hV, hO⟩ h0 hM (by omega) (by omega)
  have hQ := a4.cq a5 (by omega)
  obtain ⟨nT, hn⟩ := ex_nat a4.1.2.2.2.1.1
  obtain ⟨M2, c, m, r, b1, b2, b3, b4, b5, b6, b7, b8⟩ := c_best a2.1 a4 hQ a4.rk hn
  obtain ⟨hc, hB⟩ := a4.bw hn b2
  have S2 : SS M2 w1 (M 403) := a2.fh b3 b8
  generalize hq0 : min m 10 = q at *
  have hq := hc.1
  have hmay : r = e0 ∨ may w1 c q r = true := by
    rcases b7.1.2 with z | z
    · exact Or.inl z
    · exact Or.inr z.1
  have i0 : Inv0 (wA w1 (DA w1 c r q)) := a4.setl hc hB hmay
  have m0 := a5.setl (by omega) (by omega) hB hq (f := r) (c := c)
  have e0x : EX w1 c q r (wA w1 (DA w1 c r q)) 0 := ⟨i0, fun _ _ => rfl, fun k _ hk => by
    have := (hB.1 k hk).1.1
    rw [wA_n (by omega)]; exact (hc.2.1 k hk).2⟩
  have em0 : mix w1 c r (wA w1 (DA w1 c r q)) 0 = w1 := by
    funext j
    cases z : cel j
    · rw [mix_n z]; unfold wA; rw [z, if_f]
    · rw [mix_c z, show wA w1 (DA w1 c r 0) = w1 from wA_0 hQ (fun j => rfl)]
  obtain ⟨M3, x3, T3, d1, d2, d3, d4, d5⟩ := setls hc hB a4.pg q 0 M2 (wA w1 (DA w1 c r q)) (M 403) (by omega) (by rw [em0]; exact S2) ⟨b6, b5, b4⟩ e0x
  have em3 : mix w1 c r x3 q = x3 := by
    funext j
    cases z : cel j
    · exact mix_n z
    · rw [mix_c z]
      have := cel_lt z
      exact (d4.2.1 j (by omega)).symm
  rw [em3] at d2
  have m3 : IM ((n : Int) * 7000000000000000 + (nL : Int) * 60000000000000 + 1000000000) x3 := m0.fr (fun j x y => d4.2.1 j (by omega))
  have cf3 : CF M3 c q := CF.z ⟨b5, b4⟩ d3
  have ct3 : ∀ k, k < q → (c k : Int) < x3 1543 := fun k hk => by rw [d4.far (by omega)]; exact (hc.2.1 k hk).1
  obtain ⟨M4, x4, T4, dd, gd, g1, g2, g3, g4, g5, g6, g7⟩ := loans hq q 0 M3 x3 T3 _ (by omega) d2 d4.1 m3 (by omega) (by omega) cf3 ct3
  obtain ⟨M5, x5, T5, k1, k2, k3, k4, k5, k6, k7⟩ := parts hq q 0 M4 x4 T4 _ (by omega) g2 g4 g5 (by omega) (by omega) (cf3.l g3) (fun k hk => by rw [g7 1543 (by omega)]; exact ct3 k hk)
  have cb := Cf_b hq r
  have far : ∀ j, (1100 ≤ j ∧ j < 1140) ∨ j = 1546 ∨ j = 1547 → x5 j = M 401 j := fun j hj => by
    rw [k7 j (by omega), g7 j (by omega), d4.far (by omega), a7 j (by omega)]
  refine ok0_ret hr (w1 := x5) (T1 := T5) (M1 := M5) ⟨k2.1, k2.2.1, k2.2.2, ⟨k4, hY.fr far, k5.mono (by omega)⟩, fun x hx => ?_⟩ (v := Cf q r + dd) ?_ (fun X e1 e3 _ _ => ?_)
  · rw [k3 x (by omega), g3 x (by omega) (by omega), d3 x (by omega), b8 x (by omega) (by omega) (by omega) (by omega), a3 x (by omega)]
  · have l1 := g1 xN 0 (by unfold xN; omega) (by omega) (by omega)
    rw [show (0 : Int) + dd = dd by omega] at l1
    unfold fX11_cycle fX2_giveLoansBack fX2_settleBestSet fX2_settleByLoans fX2_settleInPart
    rw [xr_0_3, show fX2_giveLoansBack_2 395 xN 0 M = _ from a1 xN (by unfold xN; omega), xb_l, b1, xb_l, show fX2_settleBestSet_2 395 xN 0 M2 = _ from d1 xN (by unfold xN; omega), xb_l, show fX2_settleByLoans_4 395 xN 0 0 M3 = _ from l1, xb_l, xlet_b, show fX2_settleInPart_2 395 xN 0 M4 = _ from k1 xN (by unfold xN; omega), xb_l, w32_i (by omega) (by omega)]; rfl
  · obtain ⟨X3, s1, s2, s3⟩ := m_cands' (M := X) (T := M 403) (h := 0) a4.lt a4.rk hn b2
    rw [hq0] at s3
    obtain ⟨b, t1, t2⟩ := m_bset (M := X3) (T := M 403) (h := 0) s3 hc hB ⟨a4.1, a4.2.2.2.2.2.2.1⟩ hQ
    have erb : r = tb b := t2.eq b7
    refine ⟨X3, ?_, s2⟩
    have u1 := d5 X3 0 b (Cf q r) s3 erb.symm xN (by unfold xN; omega)
    have u2 := g6 X3 0 (Cf q r) xN (by unfold xN; omega) s3 cb.1 (by omega)
    have u3 := k6 X3 0 (Cf q r + dd) xN (by unfold xN; omega) s3
    unfold fX12_cycle fX12_giveBack
    rw [m_holds', xb_l, e1, e3, show fX12_giveBack_2 400 xN 0 (st X (M 401) (M 403) 0) = _ from a6 X 0 xN (by unfold xN; omega), xb_l, s1, xb_l, t1, xb_l, m_cnt hq t2.1.1, xb_l, m_moveIn s3 hc hB hQ, xb_l, ← erb]
    rw [show fX12_cycle_33 400 (b : Int) (Cf q r) xN 0 (st X3 (wA w1 (DA w1 c r q)) (M 403) 0) = _ from u1]
    rw [show fX12_cycle_69 400 xN (Cf q r) 0 (st X3 x3 T3 0) = _ from u2]
    exact u3
