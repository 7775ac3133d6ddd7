theorem ups_id {w : Nat → Int} {j : Nat} {v : Int} (h : w j = v) : ups w j v = w := by rw [← h]; exact ups_self
def aRg (w : Nat → Int) (k a b c r p : Int) : Bool := rg k 0 2 && (rg a 1 (if k = 1 then 3 else 1000) && ((decide (k = 0) || rg b 1 (if k = 1 then 3 else 10)) && ((decide (k ≠ 2) || rg c 0 100000) && (rg r (w 1547) 2000 && rg p r 2000))))
def wAn (w : Nat → Int) (e : Nat) (k x a b c r p : Int) : Nat → Int := ups (ups (ups (ups (ups (ups (ups (ups w (1050 + e) k) (1060 + e) x) (1070 + e) a) (1080 + e) b) (1090 + e) c) (1100 + e) r) (1110 + e) p) 1546 ((e : Int) + 1)
def mAn (M : xM) (e : Nat) (k x a b c r p : Int) : xM := xup (xup (xup (xup (xup (xup (xup (xup M (155 + 4 * e) 0 k) (155 + 4 * e) 1 x) (155 + 4 * e) 2 a) (155 + 4 * e) 3 b) (155 + 4 * e) 4 c) (155 + 4 * e) 5 r) (155 + 4 * e) 6 p) 3 15 ((e : Int) + 1)
theorem cs_announce {M : xM} {w : Nat → Int} (hR : R M w) (hC : IC w) (k x a b c r p : Int) : fX11_announce 0 k x a b c r p M = if inb x (w 1541) then (if aRg w k a b c r p then (if decide (w 1546 < 10) then some (.inl (w 1546), mAn M (w 1546).toNat k x a b c r p) else some (.inr 2, M)) else some (.inr 1, M)) else some (.inr 0, M) := by
  have hn := hC.2.2.2.2.2.2.1
  have k62 : fX11_announce_62 0 k x a b c r p M = if rg r (w 1547) 2000 && rg p r 2000 then (if decide (w 1546 < 10) then some (.inl (w 1546), mAn M (w 1546).toNat k x a b c r p) else some (.inr 2, M)) else some (.inr 1, M) := by
    unfold fX11_announce_62
    rw [xr_0_1, hR.day, c_rng]
    cases rg r (w 1547) 2000
    · rfl
    · rw [if_t, xb_l, c_rng]
      cases rg p r 2000
      · rfl
      · rw [if_t, xb_l, hR.nE]
        unfold fX11_announce_104
        rw [c_sta0, c_sta1, xb_l, xr_0_1, hR.nE]
        by_cases z : 10 ≤ w 1546
        · rw [if_pos z, decide_eq_false (by omega)]; rfl
        · obtain ⟨e, he⟩ := ex_nat hn.1
          have ee : (w 1546).toNat = e := by omega
          rw [if_neg z, decide_eq_true (by omega), ee, he, c_evt (by omega), xb_l, Int.toNat_natCast, w32_i (by omega) (by omega)]; rfl
  have k49 : fX11_announce_49 0 k x a b c r p M = if (decide (k ≠ 2) || rg c 0 100000) && (rg r (w 1547) 2000 && rg p r 2000) then (if decide (w 1546 < 10) then some (.inl (w 1546), mAn M (w 1546).toNat k x a b c r p) else some (.inr 2, M)) else some (.inr 1, M) := by
    unfold fX11_announce_49
    by_cases z : k = 2
    · rw [if_pos z, decide_eq_false (not_not_intro z), c_rng, Bool.false_or]
      cases rg c 0 100000
      · rfl
      · rw [if_t, xb_l, k62, Bool.true_and]
    · rw [if_neg z, decide_eq_true z, k62, Bool.true_or, Bool.true_and]
  unfold fX11_announce aRg
  rw [c_needS hR]
  cases q : inb x (w 1541)
  · rfl
  · rw [if_t, if_t, xb_l, c_rng]
    cases q1 : rg k 0 2
    · rfl
    · have hk := rg_t q1
      rw [if_t, xb_l]
      unfold fX11_announce_25 fX11_announce_46
      simp only [c_rng]
      by_cases z1 : k = 1
      · simp only [if_pos z1, if_neg (show ¬ k = 0 by omega), decide_eq_false (show ¬ k = 0 by omega), Bool.false_or]
        cases rg a 1 3
        · rfl
        · rw [if_t, xb_l]
          cases rg b 1 3
          · rfl
          · rw [if_t, xb_l, k49]; rfl
      · simp only [if_neg z1]
        cases rg a 1 1000
        · rfl
        · rw [if_t, xb_l]
          by_cases z0 : k = 0
          · rw [if_pos z0, decide_eq_true z0, k49]; rfl
          · rw [if_neg z0, decide_eq_false z0, Bool.false_or]
            cases rg b 1 10
            · rfl
            · rw [if_t, xb_l, k49]; rfl
theorem m_an2 {M : xM} {w T : Nat → Int} {h : Int} {e : Nat} (he : e < 10) (hz : ∀ t : Nat, t < 20 → w (1340 + 20 * e + t) = 0) (hn : 0 ≤ w 1546 ∧ w 1546 ≤ 100) : ∀ (k i n : Nat), i + k = 20 → k < n → fX12_announce_374 400 (e : Int) n (i : Int) (st M w T h) = some (.inl (e : Int), st M (ups w 1546 (w 1546 + 1)) T h)
  | _, _, 0, _, hn => absurd hn (Nat.not_lt_zero _)
  | 0, i, n + 1, hi, _ => by
    rw [fX12_announce_374, if_pos (by omega), xr_400_0, xput_b, st_401, st_w, w64_i (by omega) (by omega)]; rfl
  | k + 1, i, n + 1, hi, hk => by
    rw [fX12_announce_374, if_neg (by omega), xr_400_0]
    simp (disch := omega) only [w32_i, xix_t, tn_add, tn_20, Int.toNat_natCast, Int.reduceToNat, xput_b, st_w]
    rw [ups_id (hz i (by omega)), show (i : Int) + 1 = ((i + 1 : Nat) : Int) by omega]
    exact m_an2 he hz hn k (i + 1) n (by omega) (by omega)
theorem m_an1 {M : xM} {w T : Nat → Int} {h : Int} {e : Nat} (he : e < 10) (hz : ∀ t : Nat, t < 20 → w (1340 + 20 * e + t) = 0) (hy : ∀ a : Nat, a < 10 → w (1140 + 10 * e + a) = 0 ∧ w (1240 + 10 * e + a) = 0) (hn : 0 ≤ w 1546 ∧ w 1546 ≤ 100) : ∀ (k i n : Nat), i + k = 10 → k < n → fX12_announce_322 400 (e : Int) n (i : Int) (st M w T h) = some (.inl (e : Int), st M (ups w 1546 (w 1546 + 1)) T h)
  | _, _, 0, _, hn => absurd hn (Nat.not_lt_zero _)
  | 0, i, n + 1, hi, _ => by
    rw [fX12_announce_322, if_pos (by omega)]
    exact m_an2 he hz hn 20 0 xN (by omega) (by unfold xN; omega)
  | k + 1, i, n + 1, hi, hk => by
    rw [fX12_announce_322, if_neg (by omega), xr_400_0]
    simp (disch := omega) only [w32_i, xix_t, tn_add, tn_10, Int.toNat_natCast, Int.reduceToNat, xput_b, st_w]
    rw [ups_id (hy i (by omega)).1, ups_id (hy i (by omega)).2, show (i : Int) + 1 = ((i + 1 : Nat) : Int) by omega]
    exact m_an1 he hz hy hn k (i + 1) n (by omega) (by omega)
theorem ms_announce {M : xM} (hC : IC (M 401)) (hE : IE (M 401)) (k x a b c r p : Int) : fX12_announce 400 k x a b c r p M = if inb x (M 401 1541) then (if aRg (M 401) k a b c r p then (if decide (M 401 1546 < 10) then some (.inl (M 401 1546), st M (wAn (M 401) (M 401 1546).toNat k x a b c r p) (M 403) 0) else some (.inl (-1), st M (M 401) (M 403) 3)) else some (.inl (-1), st M (M 401) (M 403) 2)) else some (.inl (-1), st M (M 401) (M 403) 1) := by
  have hn := hC.2.2.2.2.2.2.1
  have e0 : ∀ s : Int, 0 < s → fX12_announce_181 400 k x a b c r p s 400 M = some (.inl (-1), st M (M 401) (M 403) s) := fun s hs => by
    unfold fX12_announce_181
    rw [m_holds', xb_l, decide_eq_true hs, if_b0]; rfl
  have g : M 401 1546 < 10 → fX12_announce_181 400 k x a b c r p 0 400 M = some (.inl (M 401 1546), st M (wAn (M 401) (M 401 1546).toNat k x a b c r p) (M 403) 0) := fun h10 => by
    obtain ⟨e, he⟩ := ex_nat hn.1
    have ee : (M 401 1546).toNat = e := by omega
    have kE := hE e (by omega)
    have kz := kE.2.1 (by omega)
    have ky := kE.2.2.2.2.1 kz.1
    unfold fX12_announce_181
    rw [m_holds', xb_l, if_b0, if_d0, xr_400_0, st_401, xlet_b, he, w32_i (x := (e : Int)) (by omega) (by omega)]
    simp (disch := omega) only [w32_i, xix_t, tn_add, Int.toNat_natCast, Int.reduceToNat, xput_b, st_w]
    rw [ups_id (j := 1120 + e) (v := 0) (by simp (disch := omega) only [ups_ne]; exact kz.1), ups_id (j := 1130 + e) (v := 0) (by simp (disch := omega) only [ups_ne]; exact kz.2)]
    have := m_an1 (M := M) (w := ups (ups (ups (ups (ups (ups (ups (M 401) (1050 + e) k) (1060 + e) x) (1070 + e) a) (1080 + e) b) (1090 + e) c) (1100 + e) r) (1110 + e) p) (T := M 403) (h := 0) (e := e) (by omega) (fun t ht => by simp (disch := omega) only [ups_ne]; exact ky.2 t ht) (fun t ht => by simp (disch := omega) only [ups_ne]; exact ky.1 t ht) (by simp (disch := omega) only [ups_ne]; omega) 10 0 xN (by omega) (by unfold xN; omega)
    rw [show fX12_announce_322 400 (e : Int) xN 0 (st M _ (M 403) 0) = _ from this]
    unfold wAn
    simp (disch := omega) only [ups_ne, he]
  generalize hX : (if inb x (M 401 1541) then (if (true : Bool) then (if decide (M 401 1546 < 10) then some (.inl (M 401 1546), st M (wAn (M 401) (M 401 1546).toNat k x a b c r p) (M 403) 0) else some (.inl (-1), st M (M 401) (M 403) 3)) else some (.inl (-1), st M (M 401) (M 403) 2)) else some (.inl (-1), st M (M 401) (M 403) 1) : xO) = X
  have k136 : ∀ p1 p2 : Bool, fX12_announce_136 400 k x a b c r p (bi p2) (bi p1) M = if inb x (M 401 1541) then (if p1 && p2 then (if decide (M 401 1546 < 10) then some (.inl (M 401 1546), st M (wAn (M 401) (M 401 1546).toNat k x a b c r p) (M 403) 0) else some (.inl (-1), st M (M 401) (M 403) 3)) else some (.inl (-1), st M (M 401) (M 403) 2)) else some (.inl (-1), st M (M 401) (M 403) 1) := fun p1 p2 => by
    unfold fX12_announce_136
    rw [m_isS x M hC, xb_l, if_b0, e0 1 (by omega), e0 2 (by omega), e0 3 (by omega), xand_bi, if_b0, xr_400_0]
    cases inb x (M 401 1541)
    · rfl
    · rw [if_t, if_t]
      cases p1 && p2
      · rfl
      · rw [if_t, if_t]
        by_cases z : M 401 1546 = 10
        · rw [if_pos z, decide_eq_false (by omega)]; rfl
        · rw [if_neg z, decide_eq_true (by omega), g (by omega)]; rfl
  clear hX
  have k94 : ∀ p1 : Bool, fX12_announce_94 400 k x a b c r p (bi p1) M = fX12_announce_136 400 k x a b c r p (bi (rg r (M 401 1547) 2000 && rg p r 2000)) (bi p1) M := fun p1 => by
    unfold fX12_announce_94 fX12_announce_135
    rw [xr_400_0, m_rg, xb_l, if_b0]
    cases rg r (M 401 1547) 2000
    · rfl
    · rw [if_t, m_rg, xb_l, if_b0]
      cases rg p r 2000 <;> rfl
  have k71 : ∀ p1 : Bool, fX12_announce_71 400 k x a b c r p (bi p1) M = fX12_announce_136 400 k x a b c r p (bi ((decide (k ≠ 2) || rg c 0 100000) && (rg r (M 401 1547) 2000 && rg p r 2000))) (bi p1) M := fun p1 => by
    unfold fX12_announce_71
    by_cases z : k = 2
    · rw [if_pos z, decide_eq_false (not_not_intro z), m_rg, xb_l, if_b0, Bool.false_or]
      cases rg c 0 100000
      · rfl
      · rw [if_t, k94, Bool.true_and]
    · rw [if_neg z, decide_eq_true z, k94, Bool.true_or, Bool.true_and]
  unfold fX12_announce fX12_announce_31 fX12_announce_60 fX12_announce_66 fX12_announce_70 aRg
  simp only [m_rg, xb_l, if_b0]
  rw [show fX12_announce_71 400 k x a b c r p 0 M = _ from k71 false, show fX12_announce_71 400 k x a b c r p 1 M = _ from k71 true, k136, k136]
  simp only [Bool.false_and, Bool.true_and]
  generalize ((decide (k ≠ 2) || rg c 0 100000) && (rg r (M 401 1547) 2000 && rg p r 2000)) = B
  cases q1 : rg k 0 2
  · rfl
  · have hk := rg_t q1
    by_cases z1 : k = 1
    · simp only [if_pos z1, if_neg (show ¬ k = 0 by omega), decide_eq_false (show ¬ k = 0 by omega), Bool.false_or]
      cases rg a 1 3
      · rfl
      · cases rg b 1 3 <;> rfl
    · simp only [if_neg z1]
      cases rg a 1 1000
      · rfl
      · by_cases z0 : k = 0
        · simp only [if_pos z0, decide_eq_true z0]; rfl
        · simp only [if_neg z0, decide_eq_false z0, Bool.false_or]
          cases rg b 1 10 <;> rfl
