/-- a new instruction's row -/
def wIn (w : Nat → Int) (i : Nat) (a b d s u m t p l : Int) : Nat → Int := ups (ups (ups (ups (ups (ups (ups (ups (ups (ups w (210 + i) a) (250 + i) b) (290 + i) d) (330 + i) s) (370 + i) u) (410 + i) m) (450 + i) t) (490 + i) p) (530 + i) l) (650 + i) (-1)
def mIn (M : xM) (i : Nat) (a b d s u m t p l : Int) : xM := xup (xup (xup (xup (xup (xup (xup (xup (xup M (61 + i) 0 a) (61 + i) 1 b) (61 + i) 2 d) (61 + i) 3 s) (61 + i) 4 u) (61 + i) 5 m) (61 + i) 6 t) (61 + i) 7 p) (61 + i) 8 l
theorem wIn_ne {w : Nat → Int} {i : Nat} (a b d s u m t p l : Int) {j : Nat} (h1 : j ≠ 210 + i) (h2 : j ≠ 250 + i) (h3 : j ≠ 290 + i) (h4 : j ≠ 330 + i) (h5 : j ≠ 370 + i) (h6 : j ≠ 410 + i) (h7 : j ≠ 450 + i) (h8 : j ≠ 490 + i) (h9 : j ≠ 530 + i) (h0 : j ≠ 650 + i) : wIn w i a b d s u m t p l j = w j := by
  unfold wIn
  rw [ups_ne h0, ups_ne h9, ups_ne h8, ups_ne h7, ups_ne h6, ups_ne h5, ups_ne h4, ups_ne h3, ups_ne h2, ups_ne h1]
theorem wIn_v {w : Nat → Int} {i : Nat} (hi : i < 40) (a b d s u m t p l : Int) : wIn w i a b d s u m t p l (210 + i) = a ∧ wIn w i a b d s u m t p l (250 + i) = b ∧ wIn w i a b d s u m t p l (290 + i) = d ∧ wIn w i a b d s u m t p l (330 + i) = s ∧ wIn w i a b d s u m t p l (370 + i) = u ∧ wIn w i a b d s u m t p l (410 + i) = m ∧ wIn w i a b d s u m t p l (450 + i) = t ∧ wIn w i a b d s u m t p l (490 + i) = p ∧ wIn w i a b d s u m t p l (530 + i) = l ∧ wIn w i a b d s u m t p l (650 + i) = -1 := by
  unfold wIn; simp (disch := omega) only [ups_ne, ups_same]; exact ⟨trivial, trivial, trivial, trivial, trivial, trivial, trivial, trivial, trivial, trivial⟩
def noT (w : Nat → Int) (i : Nat) : Prop := ∀ t : Nat, t < 20 → (t : Int) < w 1543 → di w t ≠ i ∧ ri w t ≠ i
theorem noT.up {w : Nat → Int} {i j : Nat} {v : Int} (h : noT w i) (hj : j < 730 ∨ (770 ≤ j ∧ j ≠ 1543)) : noT (ups w j v) i := fun t ht hl => by
  rw [ups_ne (by omega)] at hl
  have := h t ht hl
  unfold di ri at this ⊢
  rw [ups_ne (by omega), ups_ne (by omega)]; exact this
theorem Inv0.noT {w : Nat → Int} (h : Inv0 w) {i : Nat} (hw : w 1542 = (i : Int)) : noT w i := fun t ht hl => by
  obtain ⟨t1, t2, -⟩ := (h.2.2.2.2.2.1 t ht).1 hl
  unfold di ri; omega
theorem R.fill {M : xM} {w : Nat → Int} (h : R M w) (h0 : Inv0 w) {i : Nat} (hi : i < 40) (hw : w 1542 = (i : Int)) (a b d s u m t p l : Int) : R (mIn M i a b d s u m t p l) (wIn w i a b d s u m t p l) := by
  have n0 := h0.noT hw
  have r1 := h.iacc_up (v := a) hi n0
  have r3 := (r1.ioth_up (v := b) hi).idel_up (v := d) hi
  have r4 := r3.isec_up (v := s) hi (((n0.up (by omega)).up (by omega)).up (by omega))
  have r6 := (r4.iun_up (v := u) hi).iam_up (v := m) hi
  have r7 := r6.idate_up (v := t) hi ((((((n0.up (by omega)).up (by omega)).up (by omega)).up (by omega)).up (by omega)).up (by omega))
  have r9 := (r7.ipri_up (v := p) hi).ilea_up (v := l) hi
  exact r9.itr_dead hi (by simp (disch := omega) only [ups_ne]; omega)
set_option maxHeartbeats 4000000 in
theorem Inv0.row {w X : Nat → Int} (h : Inv0 w) {i : Nat} (hi : i < 40) (hw : w 1542 = (i : Int)) (hx : X 1542 = (i : Int) ∨ X 1542 = (i : Int) + 1) (nf : ∀ j, (j < 210 ∨ 730 ≤ j) → j ≠ 1542 → X j = w j) (nx : ∀ lo x : Nat, x < 40 → x ≠ i → (lo = 210 ∨ lo = 250 ∨ lo = 290 ∨ lo = 330 ∨ lo = 370 ∨ lo = 410 ∨ lo = 450 ∨ lo = 490 ∨ lo = 530 ∨ lo = 570 ∨ lo = 610 ∨ lo = 650 ∨ lo = 690) → X (lo + x) = w (lo + x)) (z1 : X (570 + i) = 0) (z2 : X (610 + i) = 0) (z3 : X (690 + i) = 0) (z4 : X (650 + i) = -1) (v1 : 0 ≤ X (210 + i) ∧ X (210 + i) < w 1540) (v2 : 0 ≤ X (250 + i) ∧ X (250 + i) < w 1540) (v3 : X (210 + i) ≠ X (250 + i)) (v4 : 0 ≤ X (330 + i) ∧ X (330 + i) < w 1541) (v5 : 1 ≤ X (370 + i) ∧ X (370 + i) ≤ 100000) (v6 : 0 ≤ X (410 + i) ∧ X (410 + i) ≤ 100000000) (v7 : 0 ≤ X (450 + i) ∧ X (450 + i) ≤ 2000) (v8 : 0 ≤ X (490 + i) ∧ X (490 + i) ≤ 9) (v9 : 0 ≤ X (530 + i) ∧ X (530 + i) ≤ 100000) (v10 : B01 (X (290 + i))) : Inv0 X := by
  have n0 := h.noT hw
  obtain ⟨hC, hA, hS, hH, hI, hT, hK, hL, hE⟩ := h
  have c2 := hC.2.2.1
  have c3 := hC.2.2.2.1
  refine ⟨?_, hA.fr hC (fun j _ => nf j (by omega) (by omega)), hS.fr (fun j _ => nf j (by omega) (by omega)), hH.fr (fun j _ => nf j (by omega) (by omega)), ?_, ?_, hK.fr (fun j _ => nf j (by omega) (by omega)), hL.fr (fun j _ => nf j (by omega) (by omega)), hE.fr (fun j _ => nf j (by omega) (by omega))⟩
  · unfold IC
    rw [nf 1540 (by omega) (by omega), nf 1541 (by omega) (by omega), nf 1543 (by omega) (by omega), nf 1544 (by omega) (by omega), nf 1545 (by omega) (by omega), nf 1546 (by omega) (by omega), nf 1547 (by omega) (by omega)]
    exact ⟨hC.1, hC.2.1, by omega, hC.2.2.2⟩
  · intro x hxl
    rw [nf 1540 (by omega) (by omega), nf 1541 (by omega) (by omega), nf 1543 (by omega) (by omega)]
    by_cases q : x = i
    · subst q
      rw [z1, z2, z3, z4]
      exact ⟨fun _ => ⟨v1, v2, v3, v4, v5, v6, v7, v8, v9, by omega, by omega, fun z => by omega, v10, Or.inl rfl, Or.inl rfl⟩, fun _ => ⟨rfl, rfl, rfl⟩⟩
    · rw [nx 210 x hxl q (by omega), nx 250 x hxl q (by omega), nx 330 x hxl q (by omega), nx 370 x hxl q (by omega), nx 410 x hxl q (by omega), nx 450 x hxl q (by omega), nx 490 x hxl q (by omega), nx 530 x hxl q (by omega), nx 570 x hxl q (by omega), nx 650 x hxl q (by omega), nx 290 x hxl q (by omega), nx 610 x hxl q (by omega), nx 690 x hxl q (by omega)]
      have kx := hI x hxl
      refine ⟨fun hl => ?_, fun hl => kx.2 (by omega)⟩
      obtain ⟨k1, k2, k3, k4, k5, k6, k7, k8, k9, k10, k11, k12, k13⟩ := kx.1 (by omega)
      refine ⟨k1, k2, k3, k4, k5, k6, k7, k8, k9, k10, k11, fun z => ?_, k13⟩
      have k := k12 z
      unfold di ri at k ⊢
      rw [nf (870 + _) (by omega) (by omega), nf (730 + _) (by omega) (by omega), nf (750 + _) (by omega) (by omega)]; exact k
  · intro t ht
    have hKQ : KQ X = KQ w := KQ_eq (fun e he => nf _ (by omega) (by omega))
    have e1 : di X t = di w t := by unfold di; rw [nf _ (by omega) (by omega)]
    have e2 : ri X t = ri w t := by unfold ri; rw [nf _ (by omega) (by omega)]
    rw [hKQ, e1, e2, nf 1543 (by omega) (by omega), nf 1547 (by omega) (by omega), nf (730 + t) (by omega) (by omega), nf (750 + t) (by omega) (by omega), nf (770 + t) (by omega) (by omega), nf (790 + t) (by omega) (by omega), nf (810 + t) (by omega) (by omega), nf (830 + t) (by omega) (by omega), nf (850 + t) (by omega) (by omega), nf (870 + t) (by omega) (by omega)]
    refine ⟨fun hl => ?_, (hT t ht).2⟩
    obtain ⟨n1, n2⟩ := n0 t ht hl
    obtain ⟨k1, k2, k3, k4, k5, k6, k7, k8, k9, k10, k11, k12, k13, k14⟩ := (hT t ht).1 hl
    have b1 : di w t < 40 := by unfold di; omega
    have b2 : ri w t < 40 := by unfold ri; omega
    rw [nx 210 _ b1 n1 (by omega), nx 210 _ b2 n2 (by omega), nx 570 _ b1 n1 (by omega), nx 570 _ b2 n2 (by omega), nx 650 _ b1 n1 (by omega), nx 650 _ b2 n2 (by omega)]
    exact ⟨by omega, by omega, k3, k4, k5, k6, k7, k8, k9, k10, k11, k12, k13, k14⟩
def inR (w : Nat → Int) (a b u m t p l : Int) : Bool := decide (a ≠ b) && (rg u 1 100000 && (rg m 0 100000000 && (rg t (w 1547) 2000 && (rg p 0 9 && rg l 0 u))))
def inT (w : Nat → Int) (a b s : Int) : Bool := inb a (w 1540) && (inb b (w 1540) && inb s (w 1541))
theorem cs_instruct {M : xM} {w : Nat → Int} (hR : R M w) (a b d s u m t p l : Int) : fX11_instruct 0 a b d s u m t p l M = if inT w a b s then (if inR w a b u m t p l then (if decide (w 1542 < 40) then fX11_instruct_93 0 a b d s u m t p l 1 M else some (.inr 2, M)) else some (.inr 1, M)) else some (.inr 0, M) := by
  unfold fX11_instruct fX11_instruct_26 inT inR
  rw [c_needA hR]
  cases inb a (w 1540)
  · rfl
  · rw [if_t, xb_l, c_needA hR]
    cases inb b (w 1540)
    · rfl
    · rw [if_t, xb_l, c_needS hR]
      cases inb s (w 1541)
      · rfl
      · rw [if_t, xb_l, Bool.true_and, Bool.true_and, if_t]
        by_cases z : a = b
        · rw [if_pos z, decide_eq_false (not_not_intro z), c_arg0, Bool.false_and, if_f]; rfl
        · rw [if_neg z, decide_eq_true z, c_arg1, xb_l, c_rng, Bool.true_and]
          cases rg u 1 100000
          · rfl
          · rw [if_t, xb_l, c_rng, Bool.true_and]
            cases rg m 0 100000000
            · rfl
            · rw [if_t, xb_l, xr_0_1, hR.day, c_rng, Bool.true_and]
              cases rg t (w 1547) 2000
              · rfl
              · rw [if_t, xb_l, c_rng, Bool.true_and]
                cases rg p 0 9
                · rfl
                · rw [if_t, xb_l, c_rng, Bool.true_and]
                  cases rg l 0 u
                  · rfl
                  · rw [if_t, xb_l, if_t, hR.nI]
                    by_cases y : 40 ≤ w 1542
                    · rw [if_pos y, decide_eq_false (by omega)]
                      unfold fX11_instruct_93
                      rw [c_sta0]; rfl
                    · rw [if_neg y, decide_eq_true (by omega)]; rfl
theorem c_in93 {M : xM} {w : Nat → Int} (hR : R M w) (h0 : Inv0 w) {i : Nat} (hi : i < 40) (hw : w 1542 = (i : Int)) (a b d s u m t p l : Int) (hm : 0 ≤ m ∧ m ≤ 100000000) : fX11_instruct_93 0 a b d s u m t p l 1 M = (if sMt (wIn w i a b d s u m t p l) i m i 0 (-1) 3 = -1 then some (.inl (i : Int), xup (mIn M i a b d s u m t p l) 3 11 ((i : Int) + 1)) else (if 20 ≤ w 1543 then some (.inr 2, mIn M i a b d s u m t p l) else xb (fX1_match 3 (i : Int) (sMt (wIn w i a b d s u m t p l) i m i 0 (-1) 3) (xup (mIn M i a b d s u m t p l) 3 11 ((i : Int) + 1))) (fun _ M5 => xret (i : Int) M5))) := by
  have hI := h0.2.2.2.2.1
  have r := hR.fill h0 hi hw a b d s u m t p l
  have v := wIn_v (w := w) hi a b d s u m t p l
  have e42 : wIn w i a b d s u m t p l 1542 = (i : Int) := by rw [wIn_ne _ _ _ _ _ _ _ _ _ (by omega) (by omega) (by omega) (by omega) (by omega) (by omega) (by omega) (by omega) (by omega) (by omega), hw]
  have hpf := c_pf r hi hm (by rw [e42]; omega) (by rw [e42]; omega) (fun j hj hl => by
    rw [e42] at hl
    rw [wIn_ne _ _ _ _ _ _ _ _ _ (by omega) (by omega) (by omega) (by omega) (by omega) (by omega) (by omega) (by omega) (by omega) (by omega)]
    exact ((hI j hj).1 (by omega)).2.2.2.2.2.1)
  rw [e42, Int.toNat_natCast] at hpf
  unfold fX11_instruct_93
  rw [c_sta1, xb_l, xr_0_1, hR.nI, hw, c_ins (by omega), xb_l, Int.toNat_natCast]
  simp only [xput_b]
  rw [show xup (xup (xup (xup (xup (xup (xup (xup (xup M (61 + i) 0 a) (61 + i) 1 b) (61 + i) 2 d) (61 + i) 3 s) (61 + i) 4 u) (61 + i) 5 m) (61 + i) 6 t) (61 + i) 7 p) (61 + i) 8 l = mIn M i a b d s u m t p l from rfl, hpf, xb_l, r.nT, wIn_ne _ _ _ _ _ _ _ _ _ (j := 1543) (by omega) (by omega) (by omega) (by omega) (by omega) (by omega) (by omega) (by omega) (by omega) (by omega)]
  unfold fX11_instruct_207 fX11_instruct_212
  rw [c_sta1, c_sta0, xb_l, xr_0_1, w32_i (by omega) (by omega)]
  simp only [xput_b]
  by_cases z : sMt (wIn w i a b d s u m t p l) i m i 0 (-1) 3 = -1
  · simp only [if_pos z]; rfl
  · simp only [if_neg z]; rfl
theorem m_in391s (y p s : Int) (N : xM) (hs : 0 < s) : fX12_instruct_391 400 y p s 400 N = some (.inl (-1), st N (N 401) (N 403) s) := by
  unfold fX12_instruct_391
  rw [m_holds', xb_l, decide_eq_true hs, if_b0]; rfl
theorem m_in391z {N : xM} {w T : Nat → Int} {h : Int} {i : Nat} (hi : i < 40) (hw : w 1542 = (i : Int)) (p : Int) : fX12_instruct_391 400 (i : Int) p 0 400 (st N w T h) = if p < 0 then some (.inl (i : Int), st N (ups w 1542 ((i : Int) + 1)) T 0) else xb (fX12_matched 400 (i : Int) p (st N (ups w 1542 ((i : Int) + 1)) T 0)) (fun _ M5 => xret (i : Int) M5) := by
  unfold fX12_instruct_391
  rw [m_holds, xb_l, if_b0, if_d0, xr_400_0, st_401, hw, w64_i (by omega) (by omega), xput_b, st_w]; rfl
theorem m_in340 (tb rb : Bool) (y p : Int) (N : xM) : fX12_instruct_340 400 (bi tb) (bi rb) y p N = if tb then (if rb then (if y = 40 then fX12_instruct_391 400 y p 3 400 N else (if p < 0 then fX12_instruct_391 400 y p 0 400 N else (if N 401 1543 = 20 then fX12_instruct_391 400 y p 3 400 N else fX12_instruct_391 400 y p 0 400 N))) else fX12_instruct_391 400 y p 2 400 N) else fX12_instruct_391 400 y p 1 400 N := by
  unfold fX12_instruct_340 fX12_instruct_386 fX12_instruct_390
  rw [if_b0, if_b0, xr_400_0]
theorem m_in30 (a b d s u m t p l : Int) (tb : Bool) (N : xM) : fX12_instruct_30 400 a b d s u m t p l (bi tb) N = fX12_instruct_119 400 a b d s u m t p l (bi tb) (bi (inR (N 401) a b u m t p l)) N := by
  unfold fX12_instruct_30 fX12_instruct_118 inR
  by_cases z : a = b
  · rw [if_pos z, decide_eq_false (not_not_intro z)]; rfl
  · rw [if_neg z, decide_eq_true z, m_rg, xb_l, if_b0]
    cases rg u 1 100000
    · rfl
    · rw [if_t, m_rg, xb_l, if_b0]
      cases rg m 0 100000000
      · rfl
      · rw [if_t, xr_400_0, m_rg, xb_l, if_b0]
        cases rg t (N 401 1547) 2000
        · rfl
        · rw [if_t, m_rg, xb_l, if_b0]
          cases rg p 0 9
          · rfl
          · rw [if_t, m_rg, xb_l, if_b0]
            cases rg l 0 u
            · rfl
            · rfl
theorem m_ins0 (a b d s u m t p l : Int) (N : xM) (hC : IC (N 401)) : fX12_instruct 400 a b d s u m t p l N = fX12_instruct_119 400 a b d s u m t p l (bi (inT (N 401) a b s)) (bi (inR (N 401) a b u m t p l)) N := by
  rw [← m_in30]
  unfold fX12_instruct fX12_instruct_29 inT
  rw [m_isA _ _ hC, xb_l, if_b0]
  cases inb a (N 401 1540)
  · rfl
  · rw [if_t, m_isA _ _ hC, xb_l, if_b0]
    cases inb b (N 401 1540)
    · rfl
    · rw [if_t, m_isS _ _ hC, xb_l, if_b0]
      cases inb s (N 401 1541) <;> rfl
theorem m_in119n {N : xM} {i : Nat} (hi : i ≤ 40) (hw : N 401 1542 = (i : Int)) (a b d s u m t p l : Int) (tb rb : Bool) (hn : (tb && (rb && decide (i < 40))) = false) : fX12_instruct_119 400 a b d s u m t p l (bi tb) (bi rb) N = some (.inl (-1), st N (N 401) (N 403) (if tb then (if rb then 3 else 2) else 1)) := by
  unfold fX12_instruct_119
  rw [xr_400_0, hw, w32_i (by omega) (by omega), xlet_b, if_b0, if_b0, m_in340, m_in391s _ _ 1 N (by omega), m_in391s _ _ 2 N (by omega), m_in391s _ _ 3 N (by omega)]
  cases tb
  · rfl
  · cases rb
    · rfl
    · have : 40 ≤ i := by simpa using hn
      rw [if_t, if_t, if_t, if_t, if_pos (by omega), if_pos (by omega)]; rfl
theorem m_in119 {N : xM} {w T : Nat → Int} {h : Int} {i : Nat} (hi : i < 40) (hw : w 1542 = (i : Int)) (z1 : w (570 + i) = 0) (z2 : w (610 + i) = 0) (z3 : w (690 + i) = 0) (a b d s u m t p l : Int) (hd : B01 d) : fX12_instruct_119 400 a b d s u m t p l 1 1 (st N w T h) = xb (fX12_mate 400 (i : Int) (st N (wIn w i a b d s u m t p l) T h)) (fun z M13 => fX12_instruct_340 400 1 1 (i : Int) z M13) := by
  have k197 : fX12_instruct_197 400 s u m t p l 1 1 (i : Int) d (w32 (290 + (i : Int))) 401 (st N (ups (ups w (210 + i) a) (250 + i) b) T h) = xb (fX12_mate 400 (i : Int) (st N (wIn w i a b d s u m t p l) T h)) (fun z M13 => fX12_instruct_340 400 1 1 (i : Int) z M13) := by
    unfold fX12_instruct_197
    simp (disch := omega) only [w32_i, xix_t, xr_400_0, tn_add, Int.toNat_natCast, Int.reduceToNat, xput_b, st_w]
    have e0 : ups (ups (ups (ups (ups (ups (ups (ups (ups (ups w (210 + i) a) (250 + i) b) (290 + i) d) (330 + i) s) (370 + i) u) (410 + i) m) (450 + i) t) (490 + i) p) (530 + i) l) (570 + i) 0 = ups (ups (ups (ups (ups (ups (ups (ups (ups w (210 + i) a) (250 + i) b) (290 + i) d) (330 + i) s) (370 + i) u) (410 + i) m) (450 + i) t) (490 + i) p) (530 + i) l := ups_id (by simp (disch := omega) only [ups_ne]; exact z1)
    have e1 : ups (ups (ups (ups (ups (ups (ups (ups (ups (ups w (210 + i) a) (250 + i) b) (290 + i) d) (330 + i) s) (370 + i) u) (410 + i) m) (450 + i) t) (490 + i) p) (530 + i) l) (610 + i) 0 = ups (ups (ups (ups (ups (ups (ups (ups (ups w (210 + i) a) (250 + i) b) (290 + i) d) (330 + i) s) (370 + i) u) (410 + i) m) (450 + i) t) (490 + i) p) (530 + i) l := ups_id (by simp (disch := omega) only [ups_ne]; exact z2)
    have e2 : ups (wIn w i a b d s u m t p l) (690 + i) 0 = wIn w i a b d s u m t p l := ups_id (by unfold wIn; simp (disch := omega) only [ups_ne]; exact z3)
    rw [e0, e1]
    rw [show ups (ups (ups (ups (ups (ups (ups (ups (ups (ups w (210 + i) a) (250 + i) b) (290 + i) d) (330 + i) s) (370 + i) u) (410 + i) m) (450 + i) t) (490 + i) p) (530 + i) l) (650 + i) (-1) = wIn w i a b d s u m t p l from rfl, e2]
  unfold fX12_instruct_119
  rw [xr_400_0, st_401, hw, w32_i (x := (i : Int)) (by omega) (by omega), xlet_b, if_neg (by decide), if_neg (by decide), if_neg (by omega)]
  rw [w32_i (x := 210 + (i : Int)) (by omega) (by omega), w32_i (x := 250 + (i : Int)) (by omega) (by omega), xix_t (by omega) (by omega), xput_b, xix_t (by omega) (by omega), xput_b, show (210 + (i : Int)).toNat = 210 + i by omega, show (250 + (i : Int)).toNat = 250 + i by omega, st_w, st_w]
  rcases hd with hd | hd
  · rw [hd] at k197 ⊢
    rw [if_pos rfl]; exact k197
  · rw [hd] at k197 ⊢
    rw [if_neg (by decide)]; exact k197
