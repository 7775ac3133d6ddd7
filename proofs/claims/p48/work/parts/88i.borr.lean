-- the model borrows
theorem ups_c {w w' : Nat → Int} {i j : Nat} {v : Int} (h : w j = w' j) : ups w i v j = ups w' i v j := by
  unfold ups; split
  · rfl
  · exact h
theorem rw_up {V : Nat → Int} {l D a s : Nat} {y P u v : Int} : ups (rw' (ups V 1545 u) l D a s y P) 1545 v = ups (rw' V l D a s y P) 1545 v := by
  funext j
  by_cases z : j = 1545
  · rw [z, ups_same, ups_same]
  · rw [ups_ne z, ups_ne z]
    unfold rw'
    exact ups_c (ups_c (ups_c (ups_c (ups_c (ups_c (ups_ne z))))))
theorem wA_up {w D : Nat → Int} {j : Nat} {v : Int} (h : cel j = false) : ups (wA w D) j v = wA (ups w j v) D := by
  funext i
  by_cases z : i = j
  · rw [z, ups_same]; unfold wA; rw [h, if_f, ups_same]
  · rw [ups_ne z]; unfold wA
    cases q : cel i
    · rw [if_f, if_f, ups_ne z]
    · rw [if_t, if_t, ups_ne z]
theorem cel_lt {j : Nat} (h : cel j = true) : (30 ≤ j ∧ j < 50) ∨ (100 ≤ j ∧ j < 140) := by
  unfold cel at h
  simp only [Bool.or_eq_true, Bool.and_eq_true, decide_eq_true_eq] at h; exact h
theorem m_lends {X : xM} {w T : Nat → Int} {h : Int} (hq : CQ w) {l D a s : Nat} (hl : l < 20) (hD : D < 10) (ha : a < 10) (hs : s < 4) (hne : a ≠ D) {y P : Int} (hP : w (184 + s) = P) : fX12_lends 400 (l : Int) (D : Int) (a : Int) (s : Int) y (st X w T h) = some (.inl 0, st X (wA (rw' w l D a s y P) (dL D s P a y)) T h) := by
  have hq2 : CQ (rw' w l D a s y P) := wA_q' hq (fun j hj => by have := cel_lt hj; exact rw_n hl (by omega))
  rw [← wA_dL hq2 hD ha hs (P := P) (y := y) (Or.inl hne)]
  unfold fX12_lends
  rw [if_neg (by omega)]
  simp (disch := omega) only [w32_i, xix_t, xr_400_0, tn_add, tn_4, Int.toNat_natCast, Int.reduceToNat, xput_b, st_w, st_401, ups_ne, hP]
  unfold rw'
  rw [ups_cm (i := 950 + l) (j := 930 + l) (by omega)]
  simp (disch := omega) only [ups_ne]
  rfl
theorem m_lends20 {X : xM} {l : Nat} (hl : 20 ≤ l) (D a s y : Int) : fX12_lends 400 (l : Int) D a s y X = some (.inl 0, X) := by
  unfold fX12_lends; rw [if_pos (by omega)]; rfl
/-- a row of loans that doesn't count -/
def dr (n j : Nat) : Bool := decide (930 ≤ j) && (decide (j < 1050) && decide (n ≤ (j - 930) % 20))
theorem dr_f {n j : Nat} (h : j < 930 ∨ 1050 ≤ j ∨ (j - 930) % 20 < n) : dr n j = false := by
  unfold dr
  simp only [Bool.and_eq_false_iff, decide_eq_false_iff_not]; omega
theorem rw_d {w : Nat → Int} {l D a s n : Nat} {y P : Int} (hl : l < 20) (hn : n ≤ l) {j : Nat} (h : dr n j = false) : rw' w l D a s y P j = w j := by
  unfold dr at h
  simp only [Bool.and_eq_false_iff, decide_eq_false_iff_not] at h
  unfold rw'
  rw [ups_ne (by omega), ups_ne (by omega), ups_ne (by omega), ups_ne (by omega), ups_ne (by omega), ups_ne (by omega)]
def SR (x : Nat → Int) (t : Nat) (ac : Nat → Nat) (m j : Nat) : Int := sm (fun r => dL (dl x t) (pp x t) (x (184 + pp x t)) (ac r) (lnt x t (ac r)) j) m
def FW (x : Nat → Int) (t a : Nat) (V : Nat → Int) (m : Nat) (ac : Nat → Nat) : Prop := m = min (mdn x t a) (20 - (x 1545).toNat) ∧ (∀ r, r < m → V (950 + (x 1545).toNat + r) = (ac r : Int) ∧ V (990 + (x 1545).toNat + r) = lnt x t (ac r) ∧ ac r < a ∧ 0 < lnt x t (ac r)) ∧ (∀ j, cel j = true → V j = wA x (SR x t ac m) j) ∧ (∀ j, cel j = false → dr (x 1545).toNat j = false → V j = x j) ∧ ((x 1545).toNat + mdn x t a ≤ 20 → ups V 1545 (((x 1545).toNat + mdn x t a : Nat) : Int) = WL x t a) ∧ ((x 1545).toNat + mdn x t a ≤ 20 → ∀ p : Nat → Bool, (∀ r, r < m → p (ac r) = true) ↔ ∀ b, b < a → 0 < lnt x t b → p b = true)
theorem FW.z {x : Nat → Int} {t : Nat} (h : LK x t) (hq : CQ x) : FW x t 0 x 0 (fun _ => 0) := by
  have c5 := h.1.1.2.2.2.2.2.1
  refine ⟨by unfold mdn; omega, fun r hr => absurd hr (Nat.not_lt_zero _), fun j hj => by rw [show wA x (SR x t (fun _ => 0) 0) = x from wA_0 hq (fun j => rfl)], fun _ _ _ => rfl, fun _ => ups_id (by unfold mdn; omega), fun _ p => ⟨fun _ b hb => absurd hb (Nat.not_lt_zero _), fun _ r hr => absurd hr (Nat.not_lt_zero _)⟩⟩
theorem FW.k {x : Nat → Int} {t a : Nat} {V : Nat → Int} {m : Nat} {ac : Nat → Nat} (h : FW x t a V m ac) (hz : ¬ 0 < lnt x t a) : FW x t (a + 1) V m ac := by
  obtain ⟨h1, h2, h3, h4, h5, h6⟩ := h
  have ms : mdn x t (a + 1) = mdn x t a := by rw [mdn_s, if_neg hz]; rfl
  refine ⟨by rw [ms]; exact h1, fun r hr => by have := h2 r hr; exact ⟨this.1, this.2.1, by omega, this.2.2.2⟩, h3, h4, fun hm => by rw [ms] at hm ⊢; rw [h5 hm, WL_s, if_neg hz], fun hm p => ?_⟩
  rw [ms] at hm
  rw [h6 hm p]
  exact ⟨fun g b hb hl => by
    by_cases y : b = a
    · rw [y] at hl; exact absurd hl hz
    · exact g b (by omega) hl, fun g b hb hl => g b (by omega) hl⟩
theorem FW.q {x : Nat → Int} {t a : Nat} {V : Nat → Int} {m : Nat} {ac : Nat → Nat} (h : FW x t a V m ac) : CQ V := fun j hj => by
  rw [h.2.2.1 j hj, wA_c hj]; exact w64_r _
theorem FW.x {x : Nat → Int} {t a : Nat} {V : Nat → Int} {m : Nat} {ac : Nat → Nat} (h : FW x t a V m ac) {j : Nat} (hj : (140 ≤ j ∧ j < 930) ∨ 1050 ≤ j) : V j = x j := h.2.2.2.1 j (cel_f (by omega)) (dr_f (by omega))
def acu (ac : Nat → Nat) (m a : Nat) : Nat → Nat := fun r => if r = m then a else ac r
theorem acu_s {ac : Nat → Nat} {m a : Nat} : acu ac m a m = a := if_pos rfl
theorem acu_n {ac : Nat → Nat} {m a r : Nat} (h : r ≠ m) : acu ac m a r = ac r := if_neg h
theorem FW.s {x : Nat → Int} {t a : Nat} {V : Nat → Int} {m : Nat} {ac : Nat → Nat} (h : FW x t a V m ac) (hk : LK x t) (ha : a < 10) (hz : 0 < lnt x t a) (hl : (x 1545).toNat + mdn x t a < 20) : FW x t (a + 1) (wA (rw' V ((x 1545).toNat + mdn x t a) (dl x t) a (pp x t) (lnt x t a) (x (184 + pp x t))) (dL (dl x t) (pp x t) (x (184 + pp x t)) a (lnt x t a))) (m + 1) (acu ac m a) := by
  obtain ⟨h1, h2, h3, h4, h5, h6⟩ := h
  have ms : mdn x t (a + 1) = mdn x t a + 1 := by rw [mdn_s, if_pos hz]
  have hm0 : m = mdn x t a := by omega
  have v := rw_v (w := V) (D := dl x t) (a := a) (s := pp x t) (y := lnt x t a) (P := x (184 + pp x t)) hl
  have acn : ∀ r, r < m → acu ac m a r = ac r := fun r hr => acu_n (by omega)
  refine ⟨by rw [ms]; omega, fun r hr => ?_, fun j hj => ?_, fun j hj hd => ?_, fun hm => ?_, fun hm p => ?_⟩
  · rw [wA_n (by omega), wA_n (by omega)]
    by_cases y : r = m
    · rw [y, acu_s, ← y, show 950 + (x 1545).toNat + r = 950 + ((x 1545).toNat + mdn x t a) by omega, show 990 + (x 1545).toNat + r = 990 + ((x 1545).toNat + mdn x t a) by omega]
      exact ⟨v.2.1, v.2.2.2.1, by omega, hz⟩
    · rw [acu_n y, show 950 + (x 1545).toNat + r = 950 + ((x 1545).toNat + r) by omega, show 990 + (x 1545).toNat + r = 990 + ((x 1545).toNat + r) by omega, rw_o hl (by omega) (by omega) (by omega), rw_o hl (by omega) (by omega) (by omega), show 950 + ((x 1545).toNat + r) = 950 + (x 1545).toNat + r by omega, show 990 + ((x 1545).toNat + r) = 990 + (x 1545).toNat + r by omega]
      have := h2 r (by omega)
      exact ⟨this.1, this.2.1, by omega, this.2.2.2⟩
  · have hj2 := cel_lt hj
    rw [wA_c hj, rw_n hl (by omega), h3 j hj, wA_c hj, wA_c hj, w64_add]
    have e : SR x t (acu ac m a) (m + 1) j = SR x t ac m j + dL (dl x t) (pp x t) (x (184 + pp x t)) a (lnt x t a) j := by
      have s1 : SR x t (acu ac m a) m j = SR x t ac m j := sm_eq m (fun r hr => by rw [acn r hr])
      rw [← s1]
      show _ + dL (dl x t) (pp x t) (x (184 + pp x t)) (acu ac m a m) (lnt x t (acu ac m a m)) j = _
      rw [acu_s]; rfl
    rw [e, Int.add_assoc]
  · unfold wA
    rw [hj, if_f, rw_d hl (by omega) hd]; exact h4 j hj hd
  · rw [ms] at hm ⊢
    rw [wA_up (cel_f (by omega)), WL_s, if_pos hz, ← h5 (by omega), rw_up]; rfl
  · rw [ms] at hm
    have g6 := h6 (by omega) p
    constructor
    · intro g b hb hlb
      by_cases y : b = a
      · have := g m (by omega)
        rw [acu_s] at this
        rw [y]; exact this
      · exact g6.1 (fun r hr => by have := g r (by omega); rw [acn r hr] at this; exact this) b (by omega) hlb
    · intro g r hr
      by_cases y : r = m
      · rw [y, acu_s]; exact g a (by omega) hz
      · rw [acu_n y]; exact g6.2 (fun b hb hlb => g b (by omega) hlb) r (by omega)
theorem FW.s20 {x : Nat → Int} {t a : Nat} {V : Nat → Int} {m : Nat} {ac : Nat → Nat} (h : FW x t a V m ac) (hz : 0 < lnt x t a) (hl : 20 ≤ (x 1545).toNat + mdn x t a) : FW x t (a + 1) V m ac := by
  obtain ⟨h1, h2, h3, h4, h5, h6⟩ := h
  have ms : mdn x t (a + 1) = mdn x t a + 1 := by rw [mdn_s, if_pos hz]
  exact ⟨by rw [ms]; omega, fun r hr => by have := h2 r hr; exact ⟨this.1, this.2.1, by omega, this.2.2.2⟩, h3, h4, fun hm => by omega, fun hm => by omega⟩
theorem FW.free {x : Nat → Int} {t a : Nat} {V : Nat → Int} {m : Nat} {ac : Nat → Nat} (h : FW x t a V m ac) (hk : LK x t) (hq : CQ x) (ha : a < 10) (hD : a ≠ dl x t) : sFree V a (pp x t) = sFree x a (pp x t) := by
  have p1 := hk.f.2.2.2.2.2.1
  have d1 := hk.f.2.2.2.1
  have z : ∀ n, n ≤ m → SR x t ac n (100 + 4 * a + pp x t) = 0 := by
    intro n
    induction n with
    | zero => intro _; rfl
    | succ n ih =>
      intro hn
      have := (h.2.1 n (by omega)).2.2.1
      have e : SR x t ac (n + 1) (100 + 4 * a + pp x t) = SR x t ac n (100 + 4 * a + pp x t) + dL (dl x t) (pp x t) (x (184 + pp x t)) (ac n) (lnt x t (ac n)) (100 + 4 * a + pp x t) := rfl
      rw [e, ih (by omega)]
      unfold dL
      rw [if_neg (by omega), if_neg (by omega), if_neg (by omega)]; rfl
  have e1 : V (100 + 4 * a + pp x t) = x (100 + 4 * a + pp x t) := by
    rw [h.2.2.1 _ (cel_t (by omega)), wA_c (cel_t (by omega)), z m (Nat.le_refl m), Int.add_zero, w64_id (hq _ (cel_t (by omega)))]
  unfold sFree
  rw [e1, h.x (by omega)]
theorem LK.rz {x : Nat → Int} {t : Nat} (h : LK x t) {a : Nat} (ha : rm x t a ≤ 0) : ∀ d, a + d ≤ 10 → rm x t (a + d) ≤ 0
  | 0, _ => ha
  | d + 1, hd => by
    have ih := LK.rz h ha d (by omega)
    have k := h.ln (a := a + d) (by omega)
    rw [← Nat.add_assoc, rm_s]; omega
theorem FW.fin {x : Nat → Int} {t : Nat} {V : Nat → Int} {m : Nat} {ac : Nat → Nat} (hk : LK x t) : ∀ (k a : Nat), a + k = 10 → FW x t a V m ac → (∀ b, a ≤ b → b < 10 → lnt x t b = 0) → FW x t 10 V m ac ∧ rm x t 10 = rm x t a ∧ mdn x t 10 = mdn x t a
  | 0, a, ha, h, _ => by
    have : a = 10 := by omega
    subst this; exact ⟨h, rfl, rfl⟩
  | k + 1, a, ha, h, hz => by
    have z := hz a (Nat.le_refl a) (by omega)
    obtain ⟨r1, r2, r3⟩ := FW.fin hk k (a + 1) (by omega) (h.k (by omega)) (fun b h1 h2 => hz b (by omega) h2)
    refine ⟨r1, by rw [r2, rm_s, z]; omega, by rw [r3, mdn_s, z, if_neg (by omega)]; rfl⟩
theorem m_fw {x : Nat → Int} {t : Nat} (hk : LK x t) (hq : CQ x) : ∀ (k a n : Nat) (V : Nat → Int) (m : Nat) (ac : Nat → Nat), a + k = 10 → k < n → FW x t a V m ac → ∃ (V' : Nat → Int) (m' : Nat) (ac' : Nat → Nat), FW x t 10 V' m' ac' ∧ ∀ (X : xM) (T : Nat → Int) (hh : Int), fX12_borrows_74 400 (t : Int) (dl x t : Int) (rc x t : Int) (pp x t : Int) ((x 1545).toNat : Int) n (rm x t a) (((x 1545).toNat + mdn x t a : Nat) : Int) (a : Int) (st X V T hh) = fX12_borrows_188 400 (t : Int) (dl x t : Int) (rc x t : Int) (pp x t : Int) (rm x t 10) ((x 1545).toNat : Int) (((x 1545).toNat + mdn x t 10 : Nat) : Int) (st X V' T hh)
  | _, _, 0, _, _, _, _, hn, _ => absurd hn (Nat.not_lt_zero _)
  | k, a, n + 1, V, m, ac, ha, hn, h => by
    have c0 := hk.1.1.1
    have c5 := hk.1.1.2.2.2.2.2.1
    have ml := mdn_le x t a
    have d1 := hk.f.2.2.2.1
    have r1 := hk.f.2.2.2.2.1
    have p1 := hk.f.2.2.2.2.2.1
    have x40 : V 1540 = x 1540 := h.x (by omega)
    by_cases e : x 1540 ≤ (a : Int) ∨ rm x t a ≤ 0
    · obtain ⟨f1, f2, f3⟩ := FW.fin hk k a ha h (fun b h1 h2 => by
        have kl := hk.ln h2
        rcases e with e | e
        · exact kl.2.2.2 (by omega)
        · have := hk.rz e (b - a) (by omega)
          rw [show a + (b - a) = b by omega] at this
          omega)
      refine ⟨V, m, ac, f1, fun X T hh => ?_⟩
      rw [f2, f3, fX12_borrows_74, xr_400_0, st_401, x40]
      by_cases y : x 1540 ≤ (a : Int)
      · rw [if_pos y]
      · rw [if_neg y, if_pos (by omega)]
    · obtain ⟨k', rfl⟩ : ∃ k', k = k' + 1 := ⟨k - 1, by omega⟩
      have a10 : a < 10 := by omega
      have kr := hk.r1 a (by omega)
      have kl := hk.ln a10
      have mf : ∀ (X : xM) (T : Nat → Int) (hh : Int), fX12_freeOf 400 (a : Int) (pp x t : Int) (st X V T hh) = some (.inl (sFree V a (pp x t)), st X V T hh) := fun X T hh => m_free (M := st X V T hh) a10 p1
      have nxt : ∀ V' m' ac', FW x t (a + 1) V' m' ac' → ∃ (V'' : Nat → Int) (m'' : Nat) (ac'' : Nat → Nat), FW x t 10 V'' m'' ac'' ∧ ∀ (X : xM) (T : Nat → Int) (hh : Int), fX12_borrows_74 400 (t : Int) (dl x t : Int) (rc x t : Int) (pp x t : Int) ((x 1545).toNat : Int) n (rm x t (a + 1)) (((x 1545).toNat + mdn x t (a + 1) : Nat) : Int) ((a + 1 : Nat) : Int) (st X V' T hh) = fX12_borrows_188 400 (t : Int) (dl x t : Int) (rc x t : Int) (pp x t : Int) (rm x t 10) ((x 1545).toNat : Int) (((x 1545).toNat + mdn x t 10 : Nat) : Int) (st X V'' T hh) := fun V' m' ac' g => m_fw hk hq k' (a + 1) n V' m' ac' (by omega) (by omega) g
      have c123 : ∀ s0, (x (60 + a) = 1 ∧ a ≠ dl x t ∧ a ≠ rc x t → s0 = min (rm x t a) (sFree x a (pp x t))) → ∃ (V' : Nat → Int) (m' : Nat) (ac' : Nat → Nat), FW x t 10 V' m' ac' ∧ ∀ (X : xM) (T : Nat → Int) (hh : Int), fX12_borrows_123 (fX12_borrows_74 400 (t : Int) (dl x t : Int) (rc x t : Int) (pp x t : Int) ((x 1545).toNat : Int) n) 400 (t : Int) (dl x t : Int) (rc x t : Int) (pp x t : Int) (rm x t a) ((x 1545).toNat : Int) (((x 1545).toNat + mdn x t a : Nat) : Int) (a : Int) s0 (st X V T hh) = fX12_borrows_188 400 (t : Int) (dl x t : Int) (rc x t : Int) (pp x t : Int) (rm x t 10) ((x 1545).toNat : Int) (((x 1545).toNat + mdn x t 10 : Nat) : Int) (st X V' T hh) := fun s0 hs0 => by
        by_cases z : 0 < lnt x t a
        · have lz := hk.lz z a10
          have es : s0 = lnt x t a := by
            have g : gv x t a = sFree x a (pp x t) := if_pos ⟨lz.1, lz.2.1, lz.2.2.1⟩
            rw [hs0 ⟨lz.1, lz.2.1, lz.2.2.1⟩]
            unfold lnt at z ⊢
            rw [g] at z ⊢; omega
          have ms : mdn x t (a + 1) = mdn x t a + 1 := by rw [mdn_s, if_pos z]
          have hm123 : ∀ (X : xM) (T : Nat → Int) (hh : Int) V', fX12_lends 400 (((x 1545).toNat + mdn x t a : Nat) : Int) (dl x t : Int) (a : Int) (pp x t : Int) (lnt x t a) (st X V T hh) = some (.inl 0, st X V' T hh) → fX12_borrows_123 (fX12_borrows_74 400 (t : Int) (dl x t : Int) (rc x t : Int) (pp x t : Int) ((x 1545).toNat : Int) n) 400 (t : Int) (dl x t : Int) (rc x t : Int) (pp x t : Int) (rm x t a) ((x 1545).toNat : Int) (((x 1545).toNat + mdn x t a : Nat) : Int) (a : Int) s0 (st X V T hh) = fX12_borrows_74 400 (t : Int) (dl x t : Int) (rc x t : Int) (pp x t : Int) ((x 1545).toNat : Int) n (rm x t (a + 1)) (((x 1545).toNat + mdn x t (a + 1) : Nat) : Int) ((a + 1 : Nat) : Int) (st X V' T hh) := fun X T hh V' hV => by
            have k0 := hk.r0
            have v60 : V (60 + a) = 1 := by rw [h.2.2.2.1 _ (cel_f (by omega)) (dr_f (by omega))]; exact lz.1
            unfold fX12_borrows_123 fX12_borrows_182
            simp (disch := omega) only [w32_i, xix_t, xr_400_0, tn_add, Int.toNat_natCast, Int.reduceToNat, st_401]
            rw [if_pos v60, if_neg (by have := lz.2.1; omega), if_neg (by have := lz.2.2.1; omega), es, if_neg (by omega), hV, xb_l, xlet_b, w64_i (by omega) (by omega), rm_s, ms]
            rw [show (((x 1545).toNat + mdn x t a : Nat) : Int) + 1 = (((x 1545).toNat + (mdn x t a + 1) : Nat) : Int) by omega, show (a : Int) + 1 = ((a + 1 : Nat) : Int) by omega]
          by_cases y : (x 1545).toNat + mdn x t a < 20
          · obtain ⟨V', m', ac', g1, g2⟩ := nxt _ _ _ (h.s hk a10 z y)
            exact ⟨V', m', ac', g1, fun X T hh => by rw [hm123 X T hh _ (m_lends h.q y d1 a10 p1 lz.2.1 (h.x (by omega)))]; exact g2 X T hh⟩
          · obtain ⟨V', m', ac', g1, g2⟩ := nxt _ _ _ (h.s20 z (by omega))
            exact ⟨V', m', ac', g1, fun X T hh => by rw [hm123 X T hh _ (m_lends20 (by omega) _ _ _ _)]; exact g2 X T hh⟩
        · have e182 : ∀ (X : xM) (T : Nat → Int) (hh : Int), fX12_borrows_182 (fX12_borrows_74 400 (t : Int) (dl x t : Int) (rc x t : Int) (pp x t : Int) ((x 1545).toNat : Int) n) 400 (t : Int) (dl x t : Int) (rc x t : Int) (pp x t : Int) (rm x t a) ((x 1545).toNat : Int) (((x 1545).toNat + mdn x t a : Nat) : Int) (a : Int) (st X V T hh) = fX12_borrows_74 400 (t : Int) (dl x t : Int) (rc x t : Int) (pp x t : Int) ((x 1545).toNat : Int) n (rm x t (a + 1)) (((x 1545).toNat + mdn x t (a + 1) : Nat) : Int) ((a + 1 : Nat) : Int) (st X V T hh) := fun X T hh => by
            unfold fX12_borrows_182
            rw [w32_s (by omega), rm_s, mdn_s, if_neg z, show lnt x t a = 0 by omega, Int.sub_zero]; rfl
          obtain ⟨V', m', ac', g1, g2⟩ := nxt _ _ _ (h.k z)
          refine ⟨V', m', ac', g1, fun X T hh => ?_⟩
          rw [← g2 X T hh, ← e182 X T hh]
          unfold fX12_borrows_123
          simp (disch := omega) only [w32_i, xix_t, xr_400_0, tn_add, Int.toNat_natCast, Int.reduceToNat, st_401]
          by_cases y1 : V (60 + a) = 1
          · rw [if_pos y1]
            by_cases y2 : a = dl x t
            · rw [if_pos (by omega)]
            · rw [if_neg (by omega)]
              by_cases y3 : a = rc x t
              · rw [if_pos (by omega)]
              · rw [if_neg (by omega)]
                have b1 : x (60 + a) = 1 := by rw [← h.2.2.2.1 _ (cel_f (by omega)) (dr_f (by omega))]; exact y1
                have g : gv x t a = sFree x a (pp x t) := if_pos ⟨b1, y2, y3⟩
                have s0e := hs0 ⟨b1, y2, y3⟩
                have : s0 ≤ 0 := by
                  unfold lnt at z
                  rw [g] at z; omega
                rw [if_pos this]
          · rw [if_neg y1]
      by_cases y : rm x t a ≤ sFree V a (pp x t)
      · obtain ⟨V', m', ac', g1, g2⟩ := c123 (rm x t a) (fun g => by rw [h.free hk hq a10 g.2.1] at y; omega)
        refine ⟨V', m', ac', g1, fun X T hh => ?_⟩
        rw [fX12_borrows_74, xr_400_0, st_401, x40, if_neg (by omega), if_neg (by omega), mf X T hh, xb_l, if_pos y]
        exact g2 X T hh
      · obtain ⟨V', m', ac', g1, g2⟩ := c123 (sFree V a (pp x t)) (fun g => by rw [h.free hk hq a10 g.2.1] at y ⊢; omega)
        refine ⟨V', m', ac', g1, fun X T hh => ?_⟩
        rw [fX12_borrows_74, xr_400_0, st_401, x40, if_neg (by omega), if_neg (by omega), mf X T hh, xb_l, if_neg y, mf X T hh, xb_l]
        exact g2 X T hh
