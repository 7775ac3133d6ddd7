theorem c_strt {c o : Nat} (hc : c < 3) (ho : o < 3) (v : Int) (M : xM) : fX1_setTreatyTax 3 (c : Int) (o : Int) v M = some (.inl 0, xup M 11 (3 * c + o) v) := by
  unfold fX1_setTreatyTax
  rw [xlet_b, w32_i (x := (c : Int) * 3) (by omega) (by omega), w32_i (by omega) (by omega), if_neg (by omega), if_neg (by omega), xix_t (by omega) (by omega), xr_3_8]
  have e : ((c : Int) * 3 + (o : Int)).toNat = 3 * c + o := by omega
  rw [e]; rfl
theorem rg_n {x lo hi : Int} (h : rg x lo hi = true) (h0 : 0 ≤ lo) : ∃ a : Nat, x = (a : Int) ∧ lo ≤ (a : Int) ∧ (a : Int) ≤ hi := by
  have := rg_t h
  exact ⟨x.toNat, by omega, by omega, by omega⟩
-- treaty
theorem cs_treaty {M : xM} {w : Nat → Int} (hR : R M w) (hS : IS w) (x y r : Int) : fX11_treaty 0 x y r M = if rg x 0 2 then (if rg y 0 2 then (if rg r 0 30 then some (.inl (w (196 + (3 * x.toNat + y.toNat))), xup M 11 (3 * x.toNat + y.toNat) r) else some (.inr 1, M)) else some (.inr 1, M)) else some (.inr 1, M) := by
  unfold fX11_treaty
  rw [c_rng]
  cases q : rg x 0 2
  · rfl
  · rw [if_t, if_t, xb_l, c_rng]
    cases q2 : rg y 0 2
    · rfl
    · rw [if_t, if_t, xb_l, c_rng]
      cases q3 : rg r 0 30
      · rfl
      · obtain ⟨c, rfl, c1, c2⟩ := rg_n q (by decide)
        obtain ⟨o, rfl, o1, o2⟩ := rg_n q2 (by decide)
        have k := hS.2 (3 * c + o) (by omega)
        rw [if_t, if_t, xb_l, xr_0_1, c_trt hR (by omega) (by omega), xb_l, c_strt (by omega) (by omega), xb_l, w32_i (by omega) (by omega), Int.toNat_natCast, Int.toNat_natCast]; rfl
theorem ms_treaty {M : xM} (hS : IS (M 401)) (x y r : Int) : fX12_treaty 400 x y r M = if rg x 0 2 then (if rg y 0 2 then (if rg r 0 30 then some (.inl (M 401 (196 + (3 * x.toNat + y.toNat))), st M (ups (M 401) (196 + (3 * x.toNat + y.toNat)) r) (M 403) 0) else some (.inl (-1), st M (M 401) (M 403) 1)) else some (.inl (-1), st M (M 401) (M 403) 1)) else some (.inl (-1), st M (M 401) (M 403) 1) := by
  unfold fX12_treaty fX12_treaty_44 fX12_treaty_45
  rw [m_rg, xb_l, if_b0]
  cases q : rg x 0 2
  · rw [if_f, if_f, m_holds', xb_l]; rfl
  · rw [if_t, if_t, m_rg, xb_l, if_b0]
    cases q2 : rg y 0 2
    · rw [if_f, if_f, m_holds', xb_l]; rfl
    · rw [if_t, if_t, m_rg, xb_l, if_b0]
      cases q3 : rg r 0 30
      · rw [if_f, if_f, m_holds', xb_l]; rfl
      · obtain ⟨c, rfl, c1, c2⟩ := rg_n q (by decide)
        obtain ⟨o, rfl, o1, o2⟩ := rg_n q2 (by decide)
        have k := hS.2 (3 * c + o) (by omega)
        rw [if_t, if_t, m_holds', xb_l, if_b0, if_d0, xr_400_0, st_401]
        simp (disch := omega) only [w32_i, xix_t, tn_add, tn_3, Int.toNat_natCast, Int.reduceToNat, xlet_b, xput_b, st_w, st_401, ups_same, Nat.add_assoc]
        rfl
-- recall
theorem R.lrec_up {M : xM} {w : Nat → Int} (h : R M w) {l : Nat} (hl : l < 20) (hlv : (l : Int) < w 1545) {v : Int} : R (xup M (134 + l) 5 v) (ups w (1030 + l) v) := by
  obtain ⟨f1, f2, f3, f4⟩ := f_lrec l hl
  refine ⟨h.1.up f2 f1 (by rw [f3]; omega) (by omega) (by omega) (by omega) (by omega), h.2.1.fr (fun c k q => xup_c (fun z => by subst z; simp [tcT] at q; omega)) (fun j q => ups_ne (fun z => by subst z; simp [tjT] at q; omega)), h.2.2.1.fr (fun i hi => ⟨xup_ne (by omega), xup_ne (by omega)⟩) (fun i hi => ups_ne (by omega)) (ups_ne (by omega)), h.2.2.2.fr (fun t ht => xup_ne (by omega)) (fun i hi q => ⟨xup_ne (by omega), xup_ne (by omega)⟩) (fun i hi q => xup_ne (by omega)) (Int.le_of_eq (ups_ne (by omega)).symm) (Int.le_of_eq (ups_ne (by omega)).symm)⟩
theorem cs_recall {M : xM} {w : Nat → Int} (hR : R M w) (hC : IC w) (hL : IL w) (x : Int) : fX11_recall 0 x M = if inb x (w 1545) then (if decide (0 ≤ w (990 + x.toNat)) && decide (w (1030 + x.toNat) = 0) then some (.inl (w (990 + x.toNat)), xup M (134 + x.toNat) 5 1) else some (.inr 2, M)) else some (.inr 0, M) := by
  unfold fX11_recall fX11_recall_32 fX11_recall_33
  rw [c_needL hR]
  have hb := hC.2.2.2.2.2.1
  cases q : inb x (w 1545)
  · rfl
  · obtain ⟨l, rfl, hl⟩ := inb_t q
    have k := hL l (by omega) hl
    rw [if_t, if_t, xb_l, xr_0_1, c_lon (by omega), xb_l, Int.toNat_natCast, Int.toNat_natCast, hR.lrec (by omega) hl]
    rcases hR.2.2.1 l (by omega) hl with ⟨h1, h2, h3⟩ | ⟨h1, h2⟩
    · rw [h1, if_pos rfl]
      by_cases z : w (1030 + l) = 0
      · by_cases z2 : 0 ≤ w (990 + l)
        · rw [if_pos z, decide_eq_true z, decide_eq_true z2, show (1 : Int) = bi true from rfl, c_sta, if_t, xb_l, xput_b, xup_k (by omega), h2]; rfl
        · exact absurd h3 z2
      · rw [if_neg z, decide_eq_false z, Bool.and_false]; rfl
    · rw [h1, if_neg (by decide), decide_eq_false (by omega)]; rfl
theorem ms_recall {M : xM} (hC : IC (M 401)) (hL : IL (M 401)) (x : Int) : fX12_recall 400 x M = if inb x (M 401 1545) then (if decide (0 ≤ M 401 (990 + x.toNat)) && decide (M 401 (1030 + x.toNat) = 0) then some (.inl (M 401 (990 + x.toNat)), st M (ups (M 401) (1030 + x.toNat) 1) (M 403) 0) else some (.inl (-1), st M (M 401) (M 403) 2)) else some (.inl (-1), st M (M 401) (M 403) 1) := by
  unfold fX12_recall fX12_recall_45 fX12_recall_50
  rw [m_isL x M hC, xb_l, if_b0]
  have hb := hC.2.2.2.2.2.1
  cases q : inb x (M 401 1545)
  · rw [if_f, if_f, m_holds', xb_l]; rfl
  · obtain ⟨l, rfl, hl⟩ := inb_t q
    have k := (hL l (by omega) hl).2.2.2.2.2
    rw [if_t, if_t, xr_400_0, Int.toNat_natCast]
    simp (disch := omega) only [w32_i, xix_t, tn_add, Int.toNat_natCast, Int.reduceToNat]
    by_cases z2 : M 401 (990 + l) < 0
    · rw [if_pos z2, decide_eq_false (show ¬ 0 ≤ M 401 (990 + l) by omega), m_holds', xb_l]; rfl
    · rw [if_neg z2, decide_eq_true (show 0 ≤ M 401 (990 + l) by omega)]
      rcases k with k | k
      · rw [if_neg (by omega), decide_eq_true k, m_holds', xb_l, if_b0, if_d0]
        simp (disch := omega) only [w32_i, xix_t, tn_add, Int.toNat_natCast, Int.reduceToNat, xlet_b, xput_b, st_w, st_401, ups_ne]; rfl
      · rw [if_pos k, decide_eq_false (by omega), m_holds', xb_l]; rfl
-- block
theorem cs_block {M : xM} {w : Nat → Int} (hR : R M w) (hC : IC w) (x y u : Int) : fX11_block 0 x y u M = if inb x (w 1540) then (if inb y (w 1541) then (if decide (0 ≤ u) then (if decide (u ≤ w (100 + 4 * x.toNat + y.toNat)) then some (.inl (w (140 + 4 * x.toNat + y.toNat)), xup M (14 + 4 * x.toNat) y.toNat u) else some (.inr 2, M)) else some (.inr 1, M)) else some (.inr 0, M)) else some (.inr 0, M) := by
  unfold fX11_block fX11_block_19 fX11_block_49
  rw [c_needA hR]
  have hb := hC.1
  have hn := hC.2.1
  cases q : inb x (w 1540)
  · rfl
  · rw [if_t, if_t, xb_l, c_needS hR]
    cases q2 : inb y (w 1541)
    · rfl
    · obtain ⟨a, rfl, ha⟩ := inb_t q
      obtain ⟨s, rfl, hs⟩ := inb_t q2
      rw [if_t, if_t, xb_l]
      by_cases z : u < 0
      · rw [if_pos z, decide_eq_false (by omega)]; rfl
      · rw [if_neg z, decide_eq_true (show 0 ≤ u by omega), if_t, show (1 : Int) = bi true from rfl, c_arg, if_t, xb_l, xr_0_1, c_acc (by omega), xb_l, Int.toNat_natCast, c_held hR (by omega) (by omega), xb_l, Int.toNat_natCast, Int.toNat_natCast]
        by_cases z2 : w (100 + 4 * a + s) < u
        · rw [if_pos z2, decide_eq_false (by omega)]; rfl
        · rw [if_neg z2, decide_eq_true (show u ≤ w (100 + 4 * a + s) by omega), c_sta, if_t, if_t, xb_l, c_blk hR (by omega) (by omega), xb_l, c_setb (by omega) (by omega), xb_l]; rfl
theorem ms_block {M : xM} (hC : IC (M 401)) (x y u : Int) : fX12_block 400 x y u M = if inb x (M 401 1540) then (if inb y (M 401 1541) then (if decide (0 ≤ u) then (if decide (u ≤ M 401 (100 + 4 * x.toNat + y.toNat)) then some (.inl (M 401 (140 + 4 * x.toNat + y.toNat)), st M (ups (M 401) (140 + 4 * x.toNat + y.toNat) u) (M 403) 0) else some (.inl (-1), st M (M 401) (M 403) 3)) else some (.inl (-1), st M (M 401) (M 403) 2)) else some (.inl (-1), st M (M 401) (M 403) 1)) else some (.inl (-1), st M (M 401) (M 403) 1) := by
  unfold fX12_block fX12_block_20 fX12_block_21 fX12_block_65
  rw [m_isA x M hC, xb_l, if_b0]
  have hb := hC.1
  have hn := hC.2.1
  cases q : inb x (M 401 1540)
  · rw [if_f, if_f, if_pos rfl, m_holds', xb_l]; rfl
  · rw [if_t, if_t, m_isS y M hC, xb_l, if_b0]
    cases q2 : inb y (M 401 1541)
    · rw [if_f, if_f, if_pos rfl, m_holds', xb_l]; rfl
    · obtain ⟨a, rfl, ha⟩ := inb_t q
      obtain ⟨s, rfl, hs⟩ := inb_t q2
      rw [if_t, if_t, if_neg (by decide)]
      by_cases z : 0 ≤ u
      · rw [if_pos z, decide_eq_true z, if_t, xr_400_0, Int.toNat_natCast, Int.toNat_natCast]
        simp (disch := omega) only [w32_i, xix_t, tn_add, tn_4, Int.toNat_natCast, Int.reduceToNat]
        by_cases z2 : u ≤ M 401 (100 + 4 * a + s)
        · rw [if_pos z2, decide_eq_true z2, if_t, m_holds', xb_l, if_b0, if_d0]
          simp (disch := omega) only [xlet_b, xput_b, st_w, st_401]; rfl
        · rw [if_neg z2, decide_eq_false z2, if_f, m_holds', xb_l]; rfl
      · rw [if_neg z, decide_eq_false z, if_f, m_holds', xb_l]; rfl
theorem IH.blkd {w : Nat → Int} (h : IH w) {a s : Nat} {u : Int} (ha : a < 10) (hs : s < 4) (h0 : 0 ≤ u) (h1 : u ≤ w (100 + 4 * a + s)) : IH (ups w (140 + 4 * a + s) u) := by
  refine ⟨fun b t hb ht => ?_, fun t ht => ?_⟩
  · have k := h.1 b t hb ht
    rw [ups_ne (i := 100 + 4 * b + t) (by omega), ups_ne (i := 1540) (by omega), ups_ne (i := 1541) (by omega)]
    by_cases z : 140 + 4 * b + t = 140 + 4 * a + s
    · rw [z, ups_same]
      have : 100 + 4 * b + t = 100 + 4 * a + s := by omega
      rw [this] at k ⊢
      exact ⟨h0, h1, k.2.2.1, k.2.2.2⟩
    · rw [ups_ne z]; exact k
  · rw [sm_eq (g := fun a => w (100 + 4 * a + t)) 10 (fun b hb => ups_ne (by omega)), ups_ne (by omega), KQ_eq (w := w) (fun e he => ups_ne (by omega))]; exact h.2 t ht
