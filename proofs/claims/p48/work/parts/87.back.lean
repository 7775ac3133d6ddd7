-- loans are given back
theorem R.bk {M : xM} {w : Nat → Int} (h : R M w) {l : Nat} (hl : l < 20) (hc : (l : Int) < w 1545) : R (xup M (134 + l) 6 1) (ups w (990 + l) (-1)) :=
  ⟨(h.1.cls (by rw [(jcL_n l hl).2.1]; omega)).mdl (Or.inl (f_mpd990 l hl)) (by omega) (by omega) (by omega) (by omega), h.2.1.fr (fun c k q => xup_c (fun z => by subst z; simp [tcT] at q; omega)) (fun j q => ups_ne (fun z => by subst z; simp [tjT] at q; omega)), fun x hx hcx => by
    by_cases z : x = l
    · subst z; exact Or.inr ⟨xup_same, ups_same⟩
    · rw [ups_ne (by omega)] at hcx
      rw [ups_ne (by omega), xup_c (by omega), xup_c (by omega)]; exact h.2.2.1 x hx hcx, h.2.2.2.fr (fun t q => xup_c (by omega)) (fun x q q2 => ⟨xup_ne (by omega), xup_ne (by omega)⟩) (fun i q q2 => xup_c (by omega)) (Int.le_of_eq (ups_ne (by omega)).symm) (Int.le_of_eq (ups_ne (by omega)).symm)⟩
theorem SS.bk {M : xM} {w T : Nat → Int} (h : SS M w T) {l : Nat} (hl : l < 20) (hc : (l : Int) < w 1545) : SS (xup M (134 + l) 6 1) (ups w (990 + l) (-1)) T := ⟨h.1.bk hl hc, h.2.1.up (by omega) (by omega) (by omega) (by omega) (by omega) (by omega) (by omega), h.2.2.c (by omega)⟩
theorem SS.pled {M : xM} {w T : Nat → Int} (h : SS M w T) {a : Nat} (ha : a < 10) {v : Int} : SS (xup M (12 + 4 * a) 6 v) (ups w (40 + a) v) T := ⟨h.1.pled_up ha, h.2.1.up (by omega) (by omega) (by omega) (by omega) (by omega) (by omega) (by omega), h.2.2.c (by omega)⟩
theorem SS.cash {M : xM} {w T : Nat → Int} (h : SS M w T) {a : Nat} (ha : a < 10) {v : Int} : SS (xup M (12 + 4 * a) 5 v) (ups w (30 + a) v) T := ⟨h.1.cash_up ha, h.2.1.up (by omega) (by omega) (by omega) (by omega) (by omega) (by omega) (by omega), h.2.2.c (by omega)⟩
theorem eqo.up1 {w : Nat → Int} {j : Nat} {v : Int} (hj : pm j = true) : eqo pm w (ups w j v) := (eqo.refl pm w).up hj
theorem Inv0.lon {w : Nat → Int} (h : Inv0 w) {l : Nat} (hl : l < 20) : Inv0 (ups w (990 + l) (-1)) := by
  obtain ⟨hC, hA, hS, hH, hI, hT, hK, hL, hE⟩ := h
  refine ⟨hC.fr (fun j _ _ => ups_ne (by omega)), hA.fr hC (fun j _ => ups_ne (by omega)), hS.fr (fun j _ => ups_ne (by omega)), hH.fr (fun j _ => ups_ne (by omega)), hI.fr hC (fun j _ => ups_ne (by omega)), hT.fr hC (fun j _ => ups_ne (by omega)), hK.fr (fun j _ => ups_ne (by omega)), fun x hx hc => ?_, hE.fr (fun j _ => ups_ne (by omega))⟩
  have kq : KQ (ups w (990 + l) (-1)) = KQ w := KQ_eq (fun e he => ups_ne (by omega))
  have kg := KQ_ge w
  rw [ups_ne (by omega)] at hc
  obtain ⟨k1, k2, k3, k4, k5, k6⟩ := hL x hx hc
  rw [kq]
  by_cases z : x = l
  · subst z
    simp (disch := omega) only [ups_ne, ups_same]
    exact ⟨k1, k2, k3, by omega, k5, k6⟩
  · simp (disch := omega) only [ups_ne]
    exact ⟨k1, k2, k3, k4, k5, k6⟩
theorem IM.pld {N x : Int} {w : Nat → Int} (h : IM N w) {a : Nat} (ha : a < 10) (hx : -x ≤ 0 ∧ 0 ≤ x) {v : Int} (hv : -(N + x) ≤ v ∧ v ≤ N + x) : IM (N + x) (ups w (40 + a) v) := fun b hb => by
  have k := h b hb
  rw [ups_ne (i := 30 + b) (by omega), ups_ne (i := 80 + b) (by omega)]
  by_cases z : b = a
  · subst z; rw [ups_same]; omega
  · rw [ups_ne (by omega)]; omega
/-- what giving back leaves alone -/
def gbF (w w' : Nat → Int) : Prop := ∀ j, (j < 40 ∨ (50 ≤ j ∧ j < 100) ∨ (140 ≤ j ∧ j < 990) ∨ 1010 ≤ j) → w' j = w j
theorem gb_step {M : xM} {w T : Nat → Int} (hS : SS M w T) (h0 : Inv0 w) {N : Int} (hM : IM N w) (hN0 : 0 ≤ N) (hN : N ≤ 4000000000000000000) {l : Nat} (hl : (l : Int) < w 1545) : ∃ (M' : xM) (w' : Nat → Int), (∀ n, fX2_giveLoansBack_2 395 (n + 1) (l : Int) M = fX2_giveLoansBack_2 395 n ((l + 1 : Nat) : Int) M') ∧ SS M' w' T ∧ fz M M' ∧ Inv0 w' ∧ IM (N + 60000000000000) w' ∧ (∀ (X : xM) (h : Int) (n : Nat), fX12_giveBack_2 400 (n + 1) (l : Int) (st X w T h) = fX12_giveBack_2 400 n ((l + 1 : Nat) : Int) (st X w' T h)) ∧ gbF w w' := by
  have hC := h0.1
  have c0 := hC.1
  have c1 := hC.2.1
  have c5 := hC.2.2.2.2.2.1
  have kq := KQ_le w
  have hl20 : l < 20 := by omega
  obtain ⟨k1, k2, k3, k4, k5, k6⟩ := h0.2.2.2.2.2.2.2.1 l hl20 hl
  obtain ⟨b, d, s, e1, e2, e3, hb, hd, hs⟩ := h0.2.2.2.2.2.2.2.1.nat hC (l := l) hl
  have r := hS.1.2.2.1 l hl20 hl
  have skip : (w (990 + l) < 0 ∨ sFree w b s < w (990 + l)) → (∀ n, fX2_giveLoansBack_2 395 (n + 1) (l : Int) M = fX2_giveLoansBack_2 395 n ((l + 1 : Nat) : Int) M) ∧ ∀ (X : xM) (h : Int) (n : Nat), fX12_giveBack_2 400 (n + 1) (l : Int) (st X w T h) = fX12_giveBack_2 400 n ((l + 1 : Nat) : Int) (st X w T h) := fun hz => by
    refine ⟨fun n => ?_, fun X h n => ?_⟩
    · rw [fX2_giveLoansBack_2, xr_395_0, if_neg (by rw [hS.1.nL]; omega), c_lon (by omega), xb_l, Int.toNat_natCast, hS.1.lbor hl20 hl, e1, c_acc (by omega), xb_l, Int.toNat_natCast]
      unfold fX2_giveLoansBack_98
      rw [w32_s (by omega)]
      rcases r with ⟨r1, r2, r3⟩ | ⟨r1, r2⟩
      · rw [if_pos r1, hS.1.lsec hl20 hl, e3, c_free hS.1 hb hs, xb_l, if_pos (by rw [r2]; omega)]
      · rw [if_neg (by omega)]
    · have mf := m_free (M := st X w T h) hb hs
      rw [st_401] at mf
      rw [fX12_giveBack_2, xr_400_0, st_401, if_neg (by omega)]
      simp (disch := omega) only [w32_i, xix_t, tn_add, Int.toNat_natCast, Int.reduceToNat, xlet_b, e1, e3]
      unfold fX12_giveBack_172
      rw [w32_s (by omega)]
      by_cases z : w (990 + l) < 0
      · rw [if_pos z]
      · rw [if_neg z, mf, xb_l]
        simp (disch := omega) only [w32_i, xix_t, tn_add, Int.toNat_natCast, Int.reduceToNat, st_401]
        exact if_pos (show sFree w b s < w (990 + l) by omega)
  by_cases z : w (990 + l) < 0 ∨ sFree w b s < w (990 + l)
  · obtain ⟨s1, s2⟩ := skip z
    exact ⟨M, w, s1, hS, fz.refl M, h0, hM.mono (by omega), s2, fun _ _ => rfl⟩
  · have la := h0.2.2.2.1.le hb hs
    have ef : sFree w b s = w (100 + 4 * b + s) - w (140 + 4 * b + s) := w64_i (by omega) (by omega)
    rw [e1] at k1
    rw [e2] at k2
    rw [e3] at k3
    obtain ⟨M1, a1, a2, a3⟩ := c_mvU hS h0.pg hb hd hs (w (990 + l))
    have i1 := h0.mvu (a := b) (b := d) (s := s) k1.2 k2.2 k3.2 (u := w (990 + l)) (by omega) (by omega)
    have ne : ∀ j, (j < 100 ∨ 140 ≤ j) → wU w b d s (w (990 + l)) j = w j := fun j hj => wU_ne hb hd hs hj
    have M1' : IM N (wU w b d s (w (990 + l))) := hM.fr (fun j _ _ => ne j (by omega))
    have mb := hM b hb
    generalize hW : wU w b d s (w (990 + l)) = W at *
    have S2 := a2.pled hb (v := w64 (W (40 + b) - w (1010 + l)))
    have S3 := S2.bk hl20 (by rw [ups_ne (by omega), ne _ (by omega)]; exact hl)
    have i2 := (i1.pm (eqo.up1 (j := 40 + b) (v := w64 (W (40 + b) - w (1010 + l))) (by simp [pm]; omega))).lon hl20
    have m2 : IM (N + 60000000000000) (ups W (40 + b) (w64 (W (40 + b) - w (1010 + l)))) := M1'.pld hb (by omega) (by rw [ne _ (by omega), w64_i (by omega) (by omega)]; omega)
    refine ⟨_, _, fun n => ?_, S3, ((a3.x (by omega)).x (by omega)), i2, m2.fr (fun j _ _ => ups_ne (by omega)), fun X h n => ?_, fun j hj => ?_⟩
    · have r1 : M (134 + l) 6 = 0 ∧ M (134 + l) 3 = w (990 + l) := by
        rcases r with ⟨r1, r2, r3⟩ | ⟨r1, r2⟩
        · exact ⟨r1, r2⟩
        · omega
      have l1 : (l : Int) < W 1545 := by rw [ne _ (by omega)]; exact hl
      rw [fX2_giveLoansBack_2, xr_395_0, if_neg (by rw [hS.1.nL]; omega), c_lon (by omega), xb_l, Int.toNat_natCast, hS.1.lbor hl20 hl, e1, c_acc (by omega), xb_l, Int.toNat_natCast, if_pos r1.1, hS.1.lsec hl20 hl, e3, c_free hS.1 hb hs, xb_l, r1.2, if_neg (by omega), hS.1.lbor hl20 hl, e1, hS.1.llen hl20 hl, e2, hS.1.lsec hl20 hl, e3, a1, xb_l, a2.1.pled hb, a2.1.lple hl20 l1, ne (1010 + l) (by omega), xput_b, xput_b]
      unfold fX2_giveLoansBack_98
      rw [w32_s (by omega)]
    · have mf := m_free (M := st X w T h) hb hs
      rw [st_401] at mf
      rw [fX12_giveBack_2, xr_400_0, st_401, if_neg (by omega)]
      simp (disch := omega) only [w32_i, xix_t, tn_add, Int.toNat_natCast, Int.reduceToNat, xlet_b, e1, e3]
      rw [if_neg (by omega), mf, xb_l]
      simp (disch := omega) only [w32_i, xix_t, tn_add, tn_4, Int.toNat_natCast, Int.reduceToNat, st_401, xput_b, st_w, ups_ne, e2]
      rw [if_neg (show ¬ sFree w b s < w (990 + l) by omega)]
      unfold fX12_giveBack_172
      rw [w32_s (by omega), ← hW]
      unfold wU
      simp (disch := omega) only [ups_ne]
    · rw [ups_ne (by omega), ups_ne (by omega), ne j (by omega)]
theorem gbs : ∀ (k l : Nat) (M : xM) (w T : Nat → Int) (N : Int), (l : Int) + k = w 1545 → SS M w T → Inv0 w → IM N w → 0 ≤ N → N + k * 60000000000000 ≤ 4000000000000000000 → ∃ (M' : xM) (w' : Nat → Int), (∀ n, k < n → fX2_giveLoansBack_2 395 n (l : Int) M = some (.inl 0, M')) ∧ SS M' w' T ∧ fz M M' ∧ Inv0 w' ∧ IM (N + k * 60000000000000) w' ∧ (∀ (X : xM) (h : Int) (n : Nat), k < n → fX12_giveBack_2 400 n (l : Int) (st X w T h) = some (.inl 0, st X w' T h)) ∧ gbF w w' := by
  intro k
  induction k with
  | zero =>
    intro l M w T N hk hS h0 hM hN0 hN
    refine ⟨M, w, fun n hn => ?_, hS, fz.refl M, h0, hM.mono (by omega), fun X h n hn => ?_, fun _ _ => rfl⟩
    · obtain ⟨m, rfl⟩ : ∃ m, n = m + 1 := ⟨n - 1, by omega⟩
      rw [fX2_giveLoansBack_2, xr_395_0, if_pos (by rw [hS.1.nL]; omega)]; rfl
    · obtain ⟨m, rfl⟩ : ∃ m, n = m + 1 := ⟨n - 1, by omega⟩
      rw [fX12_giveBack_2, xr_400_0, st_401, if_pos (by omega)]; rfl
  | succ k ih =>
    intro l M w T N hk hS h0 hM hN0 hN
    obtain ⟨M1, w1, a1, a2, a3, a4, a5, a6, a7⟩ := gb_step hS h0 hM hN0 (by omega) (l := l) (by omega)
    obtain ⟨M2, w2, b1, b2, b3, b4, b5, b6, b7⟩ := ih (l + 1) M1 w1 T (N + 60000000000000) (by rw [a7 1545 (by omega)]; omega) a2 a4 a5 (by omega) (by omega)
    refine ⟨M2, w2, fun n hn => ?_, b2, a3.trans b3, b4, b5.mono (by omega), fun X h n hn => ?_, fun j hj => by rw [b7 j hj, a7 j hj]⟩
    · obtain ⟨m, rfl⟩ : ∃ m, n = m + 1 := ⟨n - 1, by omega⟩
      rw [a1]; exact b1 m (by omega)
    · obtain ⟨m, rfl⟩ : ∃ m, n = m + 1 := ⟨n - 1, by omega⟩
      rw [a6]; exact b6 X h m (by omega)
