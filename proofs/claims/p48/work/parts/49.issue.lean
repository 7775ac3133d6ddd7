theorem mvs_ne {M M' : xM} {a s : Nat} : ∀ n, (∀ p : Nat, p < n → M' (15 + 4 * a) (4 * p + s) = M (15 + 4 * a) (4 * p + s)) → mvs M' a s n = mvs M a s n := fun n h => sm_eq n h
theorem MV.move {M : xM} {w : Nat → Int} (h : MV M w) {a s : Nat} (ha : a < 10) (hs : s < 4) {c : Int} (h4 : ∀ e : Nat, e < 10 → w (1120 + e) = 1 → (w (1060 + e)).toNat < 4) : MV (xup M (15 + 4 * a) (4 * np w 10 + s) (w64 (M (15 + 4 * a) (4 * np w 10 + s) + c))) (ups w (100 + 4 * a + s) (w64 (w (100 + 4 * a + s) + c))) := by
  have en : np (ups w (100 + 4 * a + s) (w64 (w (100 + 4 * a + s) + c))) 10 = np w 10 := np_eq (fun e he => ups_ne (by omega)) 10 (by omega)
  have hnp := np_le w 10
  obtain ⟨h1, h2, h3⟩ := h
  have hp := h2 a s ha hs
  generalize hP : np w 10 = P at *
  refine ⟨by rw [en, xup_c (by omega)]; exact h1, fun b t hb ht => ⟨?_, fun p p1 p2 => ?_⟩, fun e he hn => ?_⟩
  · have k := h2 b t hb ht
    by_cases z : b = a ∧ t = s
    · obtain ⟨rfl, rfl⟩ := z
      have q := sm_up (f := fun p => M (15 + 4 * b) (4 * p + t)) (g := fun p => xup M (15 + 4 * b) (4 * P + t) (w64 (M (15 + 4 * b) (4 * P + t) + c)) (15 + 4 * b) (4 * p + t)) (b := P) 11 (by omega) (fun p _ hne => xup_k (by omega))
      rw [xup_same] at q
      have q2 : mvs (xup M (15 + 4 * b) (4 * P + t) (w64 (M (15 + 4 * b) (4 * P + t) + c))) b t 11 = mvs M b t 11 + (w64 (M (15 + 4 * b) (4 * P + t) + c) - M (15 + 4 * b) (4 * P + t)) := q
      rw [q2, ups_same, ← k.1, w64_add]
      obtain ⟨k1, e1⟩ := w64_ex (M (15 + 4 * b) (4 * P + t) + c)
      obtain ⟨k2, e2⟩ := w64_ex (mvs M b t 11 + (w64 (M (15 + 4 * b) (4 * P + t) + c) - M (15 + 4 * b) (4 * P + t)))
      obtain ⟨k3, e3⟩ := w64_ex (mvs M b t 11 + c)
      have r2 := w64_r (mvs M b t 11 + (w64 (M (15 + 4 * b) (4 * P + t) + c) - M (15 + 4 * b) (4 * P + t)))
      have r3 := w64_r (mvs M b t 11 + c)
      omega
    · rw [mvs_ne 11 (fun p hp => xup_ne (by omega)), ups_ne (by omega)]; exact k.1
  · rw [en] at p1
    rw [xup_ne (by omega)]; exact (h2 b t hb ht).2 p p1 p2
  · rw [ups_ne (by omega)] at hn
    obtain ⟨q, q1, q2, q3⟩ := h3 e he hn
    refine ⟨q, by rw [xup_c (by omega)]; exact q1, by rw [en]; exact q2, fun b hb => ?_⟩
    have h5 := h4 e he hn
    rw [ups_ne (i := 1060 + e) (by omega), ups_ne (i := 1140 + 10 * e + b) (by omega), mvs_ne (q + 1) (fun p hp => xup_ne (by omega))]
    exact q3 b hb
theorem IE.sec4 {w : Nat → Int} (h : IE w) (hC : IC w) : ∀ e : Nat, e < 10 → w (1120 + e) = 1 → (w (1060 + e)).toNat < 4 := fun e he hn => by
  have k := h e he
  have c := hC.2.1
  by_cases q : (e : Int) < w 1546
  · have := (k.1 q).2.1; omega
  · have := (k.2.1 (by omega)).1; omega
-- issue
def wIs (w : Nat → Int) (a s : Nat) (t u p r : Int) : Nat → Int := ups (ups (ups (ups (ups (ups w (180 + s) t) (184 + s) p) (188 + s) r) (192 + s) u) 1541 ((s : Int) + 1)) (100 + 4 * a + s) (w64 (w (100 + 4 * a + s) + u))
def mIs (M : xM) (a s P : Nat) (t u p r : Int) : xM := xup (xup (xup (xup (xup (xup (xup M (56 + s) 0 t) (56 + s) 1 p) (56 + s) 2 r) (56 + s) 3 u) 3 10 ((s : Int) + 1)) (13 + 4 * a) s (w64 (M (13 + 4 * a) s + u))) (15 + 4 * a) (4 * P + s) (w64 (M (15 + 4 * a) (4 * P + s) + u))
def iRg (t u p r : Int) : Bool := rg t 0 2 && (rg u 1 100000 && (rg p 1 1000 && rg r 0 500))
theorem cs_issue {M : xM} {w : Nat → Int} (hR : R M w) (hV : MV M w) (hC : IC w) (x t u p r : Int) : fX11_issue 0 x t u p r M = if inb x (w 1540) then (if iRg t u p r then (if decide (w 1541 < 4) then some (.inl (w 1541), mIs M x.toNat (w 1541).toNat (np w 10) t u p r) else some (.inr 2, M)) else some (.inr 1, M)) else some (.inr 0, M) := by
  have hb := hC.1
  have hn := hC.2.1
  have hnp := np_le w 10
  unfold fX11_issue iRg
  rw [c_needA hR]
  cases q : inb x (w 1540)
  · rfl
  · rw [if_t, if_t, xb_l, c_rng]
    cases rg t 0 2
    · rfl
    · rw [if_t, xb_l, c_rng]
      cases rg u 1 100000
      · rfl
      · rw [if_t, xb_l, c_rng]
        cases rg p 1 1000
        · rfl
        · rw [if_t, xb_l, c_rng]
          cases rg r 0 500
          · rfl
          · obtain ⟨a, rfl, ha⟩ := inb_t q
            rw [if_t, xb_l, xr_0_1, hR.nS]
            by_cases z : 4 ≤ w 1541
            · rw [if_pos z, decide_eq_false (by omega)]
              unfold fX11_issue_52
              rw [c_sta0]; rfl
            · obtain ⟨s, hs⟩ := ex_nat hn.1
              have es : (w 1541).toNat = s := by omega
              rw [if_neg z, decide_eq_true (by omega), es]
              unfold fX11_issue_52
              rw [c_sta1, xb_l, xr_0_1, hR.nS, hs, c_sec (by omega), xb_l, Int.toNat_natCast, Int.toNat_natCast]
              simp only [xput_b]
              rw [c_acc (by omega), xb_l, Int.toNat_natCast]
              have ep : xup (xup (xup (xup (xup M (56 + s) 0 t) (56 + s) 1 p) (56 + s) 2 r) (56 + s) 3 u) 3 10 (w32 ((s : Int) + 1)) 3 17 = (np w 10 : Int) := by
                simp (disch := omega) only [xup_c, xup_k]; exact hV.1
              rw [ep, c_move (by omega) (by omega) (by omega), xb_l, w32_i (by omega) (by omega)]
              simp (disch := omega) only [xup_c]
              rfl
theorem ms_issue {M : xM} (hC : IC (M 401)) (hH : IH (M 401)) (x t u p r : Int) : fX12_issue 400 x t u p r M = if inb x (M 401 1540) then (if iRg t u p r then (if decide (M 401 1541 < 4) then some (.inl (M 401 1541), st M (wIs (M 401) x.toNat (M 401 1541).toNat t u p r) (M 403) 0) else some (.inl (-1), st M (M 401) (M 403) 3)) else some (.inl (-1), st M (M 401) (M 403) 2)) else some (.inl (-1), st M (M 401) (M 403) 1) := by
  have hb := hC.1
  have hn := hC.2.1
  have e : ∀ s : Int, 0 < s → fX12_issue_103 400 x t u p r s 400 M = some (.inl (-1), st M (M 401) (M 403) s) := fun s hs => by
    unfold fX12_issue_103
    rw [m_holds', xb_l, decide_eq_true hs, if_b0]; rfl
  have k59 : ∀ b : Bool, fX12_issue_59 400 x t u p r (bi b) M = if inb x (M 401 1540) then (if b then (if decide (M 401 1541 < 4) then fX12_issue_103 400 x t u p r 0 400 M else some (.inl (-1), st M (M 401) (M 403) 3)) else some (.inl (-1), st M (M 401) (M 403) 2)) else some (.inl (-1), st M (M 401) (M 403) 1) := fun b => by
    unfold fX12_issue_59
    rw [m_isA x M hC, xb_l, if_b0, if_b0, e 1 (by omega), e 2 (by omega), e 3 (by omega), xr_400_0]
    cases inb x (M 401 1540)
    · rfl
    · cases b
      · rfl
      · rw [if_t, if_t, if_t, if_t]
        by_cases z : M 401 1541 = 4
        · rw [if_pos z, decide_eq_false (by omega)]; rfl
        · rw [if_neg z, decide_eq_true (by omega)]; rfl
  unfold fX12_issue fX12_issue_58
  rw [m_rg, xb_l, if_b0, m_rg, xb_l, if_b0, m_rg, xb_l, if_b0, m_rg, xb_l, if_b0, show fX12_issue_59 400 x t u p r 0 M = _ from k59 false, show fX12_issue_59 400 x t u p r 1 M = _ from k59 true, if_f, if_t]
  cases q : inb x (M 401 1540)
  · simp only [if_f, ite_self]
  · simp only [if_t]
    have g : M 401 1541 < 4 → fX12_issue_103 400 x t u p r 0 400 M = some (.inl (M 401 1541), st M (wIs (M 401) x.toNat (M 401 1541).toNat t u p r) (M 403) 0) ∨ ¬ iRg t u p r = true := fun h4 => by
      by_cases hr : iRg t u p r = true
      · left
        obtain ⟨a, rfl, ha⟩ := inb_t q
        obtain ⟨s, hs⟩ := ex_nat hn.1
        have es : (M 401 1541).toNat = s := by omega
        have hu := rg_t (and_tt (and_tt hr).2).1
        have h0 := (hH.1 a s (by omega) (by omega)).2.2.2 (by omega)
        unfold fX12_issue_103
        rw [m_holds', xb_l, if_b0, if_d0, xr_400_0, st_401, xlet_b, hs, w32_i (x := (s : Int)) (by omega) (by omega)]
        simp (disch := omega) only [w32_i, xix_t, tn_add, tn_4, Int.toNat_natCast, Int.reduceToNat, xlet_b, xput_b, st_w, st_401, ups_ne, w64_i, hs]
        unfold wIs
        rw [h0, Int.zero_add, w64_i (by omega) (by omega), ups_comm (i := 1541) (by omega)]; rfl
      · exact Or.inr hr
    have h4c : ∀ hr : iRg t u p r = true, (if decide (M 401 1541 < 4) then fX12_issue_103 400 x t u p r 0 400 M else some (.inl (-1), st M (M 401) (M 403) 3)) = (if decide (M 401 1541 < 4) then some (.inl (M 401 1541), st M (wIs (M 401) x.toNat (M 401 1541).toNat t u p r) (M 403) 0) else some (.inl (-1), st M (M 401) (M 403) 3)) := fun hr => by
      cases q4 : decide (M 401 1541 < 4)
      · rfl
      · rcases g (of_decide_eq_true q4) with k | k
        · rw [if_t, if_t, k]
        · exact absurd hr k
    unfold iRg at h4c ⊢
    cases q1 : rg t 0 2
    · rfl
    · cases q2 : rg u 1 100000
      · rfl
      · cases q3 : rg p 1 1000
        · rfl
        · cases q5 : rg r 0 500
          · rfl
          · exact h4c (by rw [q1, q2, q3, q5]; rfl)
