-- the cycle
theorem loans {c : Nat → Nat} {q : Nat} (hq : q ≤ 10) : ∀ (k i : Nat) (M : xM) (x T : Nat → Int) (N : Int), i + k = q → SS M x T → Inv0 x → IM N x → 0 ≤ N → N + k * 61000000000000 ≤ 3900000000000000000 → CF M c q → (∀ k, k < q → (c k : Int) < x 1543) → ∃ (M' : xM) (x' T' : Nat → Int) (d : Int), (0 ≤ d ∧ d ≤ k) ∧ (∀ (n : Nat) (v : Int), k < n → 0 ≤ v → v + k ≤ 100 → fX2_settleByLoans_4 395 n v (i : Int) M = some (.inl (v + d), M')) ∧ SS M' x' T' ∧ fl M M' ∧ Inv0 x' ∧ IM (N + k * 61000000000000) x' ∧ (∀ (X : xM) (h v : Int) (n : Nat), k < n → CM X c q → 0 ≤ v → v + k ≤ 100 → fX12_cycle_69 400 n v (i : Int) (st X x T h) = fX12_cycle_126 400 (v + d) xN 0 (st X x' T' h)) ∧ cyF x x' ∧ QC x x' := by
  intro k
  induction k with
  | zero =>
    intro i M x T N hk hS h0 hM hN0 hN hF hc
    refine ⟨M, x, T, 0, by omega, fun n v hn v0 v1 => ?_, hS, (fz.refl M).l, h0, hM.mono (by omega), fun X h v n hn hX v0 v1 => ?_, fun _ _ => rfl, QC.refl x⟩
    · obtain ⟨m, rfl⟩ : ∃ m, n = m + 1 := ⟨n - 1, by omega⟩
      rw [fX2_settleByLoans_4, hF.1, if_pos (by omega), Int.add_zero]; rfl
    · obtain ⟨m, rfl⟩ : ∃ m, n = m + 1 := ⟨n - 1, by omega⟩
      rw [fX12_cycle_69, st_k (by omega), hX.1, if_pos (by omega), Int.add_zero]
  | succ k ih =>
    intro i M x T N hk hS h0 hM hN0 hN hF hc
    obtain ⟨M1, x1, T1, d1, ad, a1, a2, a3, a4, a5, a6, a7, aq⟩ := loan_step hS h0 hM hN0 (by omega) hF hq (i := i) (by omega) (hc i (by omega))
    obtain ⟨M2, x2, T2, d2, bd, b1, b2, b3, b4, b5, b6, b7, bq⟩ := ih (i + 1) M1 x1 T1 (N + 61000000000000) (by omega) a2 a4 a5 (by omega) (by omega) (hF.l a3) (fun k hk => by rw [a7 1543 (by omega)]; exact hc k hk)
    refine ⟨M2, x2, T2, d1 + d2, by omega, fun n v hn v0 v1 => ?_, b2, a3.trans b3, b4, b5.mono (by omega), fun X h v n hn hX v0 v1 => ?_, a7.trans b7, aq.trans bq (a7 1540 (by omega)) (fun i hi => a7 _ (by omega))⟩
    · obtain ⟨m, rfl⟩ : ∃ m, n = m + 1 := ⟨n - 1, by omega⟩
      rw [a1 m v v0 (by omega), b1 m (v + d1) (by omega) (by omega) (by omega), Int.add_assoc]
    · obtain ⟨m, rfl⟩ : ∃ m, n = m + 1 := ⟨n - 1, by omega⟩
      rw [a6 X h v m hX v0 (by omega), b6 X h (v + d1) m (by omega) hX (by omega) (by omega), Int.add_assoc]
theorem SS.fh {M M' : xM} {x T : Nat → Int} (hS : SS M x T) (hR : R M' x) (h : fh M M') : SS M' x T :=
  ⟨hR, hS.2.1.fr (by rw [h 3 (by omega) (by omega) (by omega) (by omega)]) (fun a ha => h _ (by omega) (by omega) (by omega) (by omega)) (fun e he => by rw [h _ (by omega) (by omega) (by omega) (by omega)]) (fun _ _ _ => rfl) (fun _ _ => rfl) (fun _ _ _ => rfl) (fun _ _ _ => rfl), fun a ha => by rw [h 2 (by omega) (by omega) (by omega) (by omega)]; exact hS.2.2 a ha⟩
