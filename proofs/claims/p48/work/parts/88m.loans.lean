-- all loans of a cycle
theorem m_bor0 {X : xM} {T : Nat → Int} {hh : Int} {x : Nat → Int} {t : Nat} (h0 : Inv0 x) (ht : (t : Int) < x 1543) (hz : x (770 + t) ≤ sFree x (dl x t) (pp x t) ∨ sLd x t = true) : fX12_borrows 400 (t : Int) (st X x T hh) = some (.inl 0, st X x T hh) := by
  have f := h0.tf ht
  have kq := KQ_le x
  obtain ⟨f0, -, -, d1, r1, p1, -⟩ := id f
  obtain ⟨-, -, -, t4, -⟩ := (h0.2.2.2.2.2.1 t f0).1 ht
  have la := h0.2.2.2.1.le d1 p1
  have ef : sFree x (dl x t) (pp x t) = x (100 + 4 * dl x t + pp x t) - x (140 + 4 * dl x t + pp x t) := w64_i (by omega) (by omega)
  have c5 := h0.1.2.2.2.2.2.1
  have md := m_dl (M := st X x T hh) (t := t) f
  have mr := m_rc (M := st X x T hh) (t := t) f
  have mp := m_pp (M := st X x T hh) (t := t) f
  have mf := m_free (M := st X x T hh) d1 p1
  rw [st_401] at md mr mp mf
  unfold fX12_borrows
  rw [md, xb_l, mr, xb_l, mp, xb_l, mf, xb_l]
  simp (disch := omega) only [w32_i, xix_t, xr_400_0, tn_add, Int.toNat_natCast, Int.reduceToNat, st_401, xlet_b]
  rw [w64_i (by omega) (by omega), m_lkd h0.1, xb_l, if_b0]
  by_cases z : x (770 + t) - sFree x (dl x t) (pp x t) ≤ 0
  · rw [if_pos z]; rfl
  · rw [if_neg z]
    rcases hz with y | y
    · omega
    · rw [y, if_t]; rfl
theorem loan_step {M : xM} {x T : Nat → Int} (hS : SS M x T) (h0 : Inv0 x) {N : Int} (hM : IM N x) (hN0 : 0 ≤ N) (hN : N ≤ 3900000000000000000) {c : Nat → Nat} {q i : Nat} (hF : CF M c q) (hq : q ≤ 10) (hi2 : i < q) (ht : (c i : Int) < x 1543) : ∃ (M' : xM) (x' T' : Nat → Int) (d : Int), (0 ≤ d ∧ d ≤ 1) ∧ (∀ n v, 0 ≤ v → v ≤ 100 → fX2_settleByLoans_4 395 (n + 1) v (i : Int) M = fX2_settleByLoans_4 395 n (v + d) ((i + 1 : Nat) : Int) M') ∧ SS M' x' T' ∧ fl M M' ∧ Inv0 x' ∧ IM (N + 61000000000000) x' ∧ (∀ (X : xM) (h v : Int) (n : Nat), CM X c q → 0 ≤ v → v ≤ 100 → fX12_cycle_69 400 (n + 1) v (i : Int) (st X x T h) = fX12_cycle_69 400 n (v + d) ((i + 1 : Nat) : Int) (st X x' T' h)) ∧ cyF x x' ∧ QC x x' := by
  have hQ := h0.cq hM (by omega)
  have f := h0.tf ht
  have kq := KQ_le x
  obtain ⟨f0, -, -, d1, r1, p1, -⟩ := id f
  have c5 := h0.1.2.2.2.2.2.1
  have ml : ∀ (X : xM) (h v : Int) (n : Nat), CM X c q → fX12_cycle_69 400 (n + 1) v (i : Int) (st X x T h) = if x (870 + c i) = 0 then xb (fX12_borrows 400 (c i : Int) (st X x T h)) (fun z1 M2 => if z1 = 0 then fX12_cycle_69 400 n (w32 (v + 0)) ((i + 1 : Nat) : Int) M2 else fX12_cycle_69 400 n (w32 (v + 1)) ((i + 1 : Nat) : Int) M2) else fX12_cycle_69 400 n (w32 (v + 0)) ((i + 1 : Nat) : Int) (st X x T h) := fun X h v n hX => by
    rw [fX12_cycle_69, st_k (by omega), hX.1, if_neg (by omega), xix_t (z := (i : Int)) (by omega) (by omega), xr_400_4, Int.toNat_natCast, st_c (c := 404) (by omega) (by omega) (by omega), hX.2 i hi2]
    unfold fX12_cycle_115 fX12_cycle_116
    simp (disch := omega) only [w32_i (x := 870 + (c i : Int)), w32_i (x := (i : Int) + 1), xix_t, xr_400_0, tn_add, Int.toNat_natCast, Int.reduceToNat, st_401, xlet_b]
    rw [show (i : Int) + 1 = ((i + 1 : Nat) : Int) by omega]
  have cl : ∀ n v, fX2_settleByLoans_4 395 (n + 1) v (i : Int) M = if x (870 + c i) = 0 then (if sLa x (c i) then (if sLd x (c i) then fX2_settleByLoans_4 395 n v ((i + 1 : Nat) : Int) M else xb (fX2_settleByLoan 395 (102 + c i) M) (fun z7 M8 => if z7 = 0 then fX2_settleByLoans_4 395 n v ((i + 1 : Nat) : Int) M8 else fX2_settleByLoans_4 395 n (w32 (v + 1)) ((i + 1 : Nat) : Int) M8)) else fX2_settleByLoans_4 395 n v ((i + 1 : Nat) : Int) M) else fX2_settleByLoans_4 395 n v ((i + 1 : Nat) : Int) M := fun n v => by
    rw [fX2_settleByLoans_4, hF.1, if_neg (by omega), c_cnd (by omega) (by omega) (hF.2 i hi2), xb_l, Int.toNat_natCast, hS.1.tst f0, xr_395_0, c_la hS.1 f ht, xb_l, if_b0, c_lkd hS.1 h0.1 f0, xb_l, if_b0]
    unfold fX2_settleByLoans_59
    rw [w32_s (by omega)]
    by_cases y : x (870 + c i) = 0
    · rw [if_pos y, if_pos (by omega)]
    · rw [if_neg y, if_neg (by omega)]
  by_cases z : x (870 + c i) = 0 ∧ sLa x (c i) = true ∧ sLd x (c i) = false
  · obtain ⟨z1, z2, z3⟩ := z
    have hk : LK x (c i) := ⟨h0, ht, by
      unfold sLa at z2
      rw [decide_eq_true_eq] at z2
      show 0 < x (770 + c i) - sFree x (dl x (c i)) (pp x (c i))
      omega⟩
    obtain ⟨M1, a1, a2, a3⟩ := c_byLoan hS hk hQ
    cases o : lok x (c i)
    · rw [o, if_f, if_f] at a2
      obtain ⟨U, u1, u2⟩ := m_borrows hk hQ z3
      refine ⟨M1, U, T, 0, by omega, fun n v v0 v1 => ?_, a2.dr c5.1 u1, a3, h0.dr' u1, (hM.mono (by omega)).fr (fun j _ _ => u1.o (by omega)), fun X h v n hX v0 v1 => ?_, fun j hj => u1.o (by omega), ⟨fun m hm => by rw [sm_eq (g := fun a => x (30 + a)) m (fun a ha => by have := h0.1.1.2; exact u1.o (by omega))], fun i2 hi2 _ => u1.o (by omega)⟩⟩
      · rw [cl, if_pos z1, z2, if_t, z3, if_f, a1, xb_l, o, if_b0, if_f, Int.add_zero]
      · have u3 := u2 X T h
        rw [o, if_f] at u3
        rw [ml X h v n hX, if_pos z1, u3, xb_l, if_pos rfl, w32_i (by omega) (by omega)]
    · obtain ⟨b1, b2, b3, bq⟩ := wBl_i hk hM hN0 (by omega) z1 o
      rw [o, if_t, if_t] at a2
      refine ⟨M1, _, _, 1, by omega, fun n v v0 v1 => ?_, a2, a3, b1, b2, fun X h v n hX v0 v1 => ?_, fun j hj => b3 j (by omega), bq⟩
      · rw [cl, if_pos z1, z2, if_t, z3, if_f, a1, xb_l, o, if_b0, if_t, w32_i (by omega) (by omega)]
      · obtain ⟨U, -, u2⟩ := m_borrows hk hQ z3
        have u3 := u2 X T h
        rw [o, if_t] at u3
        rw [ml X h v n hX, if_pos z1, u3, xb_l, if_neg (by decide), w32_i (by omega) (by omega)]
  · refine ⟨M, x, T, 0, by omega, fun n v v0 v1 => ?_, hS, (fz.refl M).l, h0, hM.mono (by omega), fun X h v n hX v0 v1 => ?_, fun _ _ => rfl, QC.refl x⟩
    · rw [cl, Int.add_zero]
      by_cases y : x (870 + c i) = 0
      · rw [if_pos y]
        cases y2 : sLa x (c i)
        · rfl
        · rw [if_t]
          cases y3 : sLd x (c i)
          · exact absurd ⟨y, y2, y3⟩ z
          · rfl
      · rw [if_neg y]
    · rw [ml X h v n hX, w32_i (x := v + 0) (by omega) (by omega)]
      by_cases y : x (870 + c i) = 0
      · rw [if_pos y, m_bor0 h0 ht (by
          cases y3 : sLd x (c i)
          · left
            cases y2 : sLa x (c i)
            · unfold sLa at y2
              rw [decide_eq_false_iff_not] at y2; omega
            · exact absurd ⟨y, y2, y3⟩ z
          · exact Or.inr rfl), xb_l, if_pos rfl]
      · rw [if_neg y]
