/-! the beginning -/
def wZ : Nat → Int := fun j => if 196 ≤ j ∧ j < 205 then 15 else 0
theorem wZ_z {j : Nat} (h : j < 196 ∨ 205 ≤ j) : wZ j = 0 := if_neg (by omega)
def xZ : xM := fun c k => lkM (litM.getD c []) k
theorem xZ_1 : ∀ j : Nat, j < 1550 → mpd j = true → j < 10 ∨ xZ (cj j).1 (cj j).2 = (if 196 ≤ j ∧ j < 205 then 15 else 0) + off j ∨ (650 ≤ j ∧ j < 690) := by decide +kernel
theorem xZ_C : (∀ t : Nat, t < 20 → xZ (102 + t) 0 = (t : Int)) ∧ (∀ l : Nat, l < 20 → xZ (134 + l) 5 = 0 ∧ xZ (134 + l) 6 = 0) ∧ (∀ i : Nat, i < 40 → xZ (61 + i) 10 = -1) ∧ (∀ t : Nat, t < 20 → xZ (298 + t) 0 = (t : Int)) := by decide +kernel
theorem xZ_V : xZ 3 17 = 0 ∧ (∀ a : Nat, a < 10 → ∀ k : Nat, k < 44 → xZ (15 + 4 * a) k = 0) ∧ (∀ k : Nat, k < 5 → xZ 400 k = 0) := by decide +kernel
theorem xZ_R : R xZ wZ := by
  refine ⟨fun j hm hl => ?_, fun t _ ht => ?_, fun l _ hl => ?_, xZ_C.1, fun l hl _ => xZ_C.2.1 l hl, fun i hi _ => xZ_C.2.2.1 i hi⟩
  · obtain ⟨l1, l2, -⟩ := hl
    have hj := mpd_lt hm
    rcases xZ_1 j hj hm with z | z | z
    · have := l1 z
      rw [wZ_z (by omega)] at this; omega
    · exact z
    · have := l2 z.1 z.2
      rw [wZ_z (by omega)] at this; omega
  · rw [wZ_z (by omega)] at ht; omega
  · rw [wZ_z (by omega)] at hl; omega
theorem np_z {w : Nat → Int} (h : ∀ e : Nat, e < 10 → w (1120 + e) = 0) : ∀ n, n ≤ 10 → np w n = 0
  | 0, _ => rfl
  | n + 1, hn => by unfold np; rw [np_z h n (by omega), h n (by omega)]; rfl
theorem xZ_MV : MV xZ wZ := by
  have e : np wZ 10 = 0 := np_z (fun e he => wZ_z (by omega)) 10 (by omega)
  obtain ⟨v1, v2, -⟩ := xZ_V
  refine ⟨by rw [e]; exact v1, fun a s ha hs => ⟨?_, fun p _ hp => v2 a ha _ (by omega)⟩, fun x hx hn => ?_⟩
  · have : mvs xZ a s 11 = 0 := sm_0 11 (fun p hp => v2 a ha _ (by omega))
    rw [this, wZ_z (by omega)]; rfl
  · rw [wZ_z (by omega)] at hn; omega
theorem xZ_I : Inv 0 wZ := by
  have kg := KQ_ge wZ
  refine ⟨⟨?_, fun a ha => ?_, ⟨fun s hs => ?_, fun k hk => ?_⟩, ⟨fun a s ha hs => ?_, fun s hs => ?_⟩, fun i hi => ⟨fun hl => ?_, fun _ => ?_⟩, fun t ht => ⟨fun hl => ?_, fun _ => ?_⟩, fun k hk hl => ?_, fun l hl hc => ?_, fun e he => ⟨fun hl => ?_, fun _ => ?_, ?_, ?_, fun _ => ⟨fun a ha => ?_, fun t ht => ?_⟩, fun a ha => ?_, fun t ht => ?_⟩⟩, fun e he hl => ?_, fun a ha => ?_⟩
  · unfold IC
    simp (disch := omega) only [wZ_z]; omega
  · simp (disch := omega) only [wZ_z]
    exact ⟨by omega, Or.inl rfl, Or.inl rfl, Or.inl rfl, by omega, fun z => by omega, fun z => by omega⟩
  · simp (disch := omega) only [wZ_z]; omega
  · unfold wZ; split <;> omega
  · simp (disch := omega) only [wZ_z]; exact ⟨by omega, by omega, fun _ => trivial, fun _ => trivial⟩
  · refine ⟨?_, ?_⟩
    · rw [sm_0 10 (fun a ha => wZ_z (by omega)), wZ_z (by omega)]
    · rw [wZ_z (by omega)]; omega
  · rw [wZ_z (by omega)] at hl; omega
  · simp (disch := omega) only [wZ_z]; exact ⟨trivial, trivial, trivial⟩
  · rw [wZ_z (by omega)] at hl; omega
  · simp (disch := omega) only [wZ_z]; exact ⟨trivial, trivial⟩
  · rw [wZ_z (by omega)] at hl; omega
  · rw [wZ_z (by omega)] at hc; omega
  · rw [wZ_z (by omega)] at hl; omega
  · simp (disch := omega) only [wZ_z]; exact ⟨trivial, trivial⟩
  · rw [wZ_z (by omega)]; exact Or.inl rfl
  · rw [wZ_z (by omega)]; exact Or.inl rfl
  · simp (disch := omega) only [wZ_z]; exact ⟨trivial, trivial⟩
  · exact wZ_z (by omega)
  · simp (disch := omega) only [wZ_z]; omega
  · simp (disch := omega) only [wZ_z]; exact ⟨by omega, by omega, fun _ => trivial⟩
  · rw [wZ_z (by omega)] at hl; omega
  · simp (disch := omega) only [wZ_z]; omega
theorem cx_0 : Cx xM0 wZ (xM0 2) 0 := by
  rw [show xM0 = xZ from xM0_d]
  exact ⟨xZ_R, xZ_MV, xZ_I, fun _ _ => rfl, xZ_C.2.2.2⟩
/-- while the accounts are opened -/
def SU (M : xM) (w T : Nat → Int) (n a s : Nat) : Prop := Cx M w T n ∧ (M 400 0 = (a : Int) ∧ M 400 1 = (s : Int) ∧ M 400 2 = 0 ∧ M 400 3 = 0 ∧ M 400 4 = 0) ∧ w 1540 = (a : Int) ∧ w 1541 = (s : Int) ∧ w 1542 = 0 ∧ w 1543 = 0 ∧ w 1546 = 0 ∧ w 1547 = 0 ∧ (∀ b : Nat, b < 10 → w (80 + b) = 0) ∧ (1 < a → w 1 = -1) ∧ (2 < a → w 2 = 1)
theorem su_0 : SU xM0 wZ (xM0 2) 0 0 0 := by
  have e := xZ_V.2.2
  rw [← show xM0 = xZ from xM0_d] at e
  exact ⟨cx_0, ⟨e 0 (by omega), e 1 (by omega), e 2 (by omega), e 3 (by omega), e 4 (by omega)⟩, wZ_z (by omega), wZ_z (by omega), wZ_z (by omega), wZ_z (by omega), wZ_z (by omega), wZ_z (by omega), fun b hb => wZ_z (by omega), fun z => by omega, fun z => by omega⟩
theorem SU.st {M M1 : xM} {w T w1 T1 : Nat → Int} {n a s : Nat} (h : SU M w T n a s) (k : Sk M M1 w1 T1 n) (q : St w w1) : SU M1 w1 T1 (n + 1) a s := by
  obtain ⟨hx, hc, a1, a2, a3, a4, a5, a6, a7, a8, a9⟩ := h
  refine ⟨k.cx hx, by rw [k.2.2.2.2 400 (by omega)]; exact hc, by rw [q.1 _ (by omega)]; exact a1, by rw [q.1 _ (by omega)]; exact a2, by rw [q.1 _ (by omega)]; exact a3, by rw [q.1 _ (by omega)]; exact a4, by rw [q.1 _ (by omega)]; exact a5, by rw [q.1 _ (by omega)]; exact a6, fun b hb => by rw [q.1 _ (by omega)]; exact a7 b hb, fun z => by rw [q.1 _ (by omega)]; exact a8 z, fun z => by rw [q.1 _ (by omega)]; exact a9 z⟩
theorem su_open {M : xM} {w T : Nat → Int} {n a : Nat} (h : SU M w T n a 0) (ha : a < 6) {c b t x l : Int} (hc : c = if a = 2 then 1 else -1) (ht : 0 ≤ t ∧ t ≤ 2) (hx : 0 ≤ x ∧ x ≤ 1000000) (hl : 0 ≤ l ∧ l ≤ 1000000) : ∃ (M1 : xM) (w1 T1 : Nat → Int), fL_opens 0 c b t x l M = some (.inl (a : Int), M1) ∧ M1 400 = M 400 ∧ SU (xup M1 400 0 ((a + 1 : Nat) : Int)) w1 T1 (n + 1) (a + 1) 0 := by
  obtain ⟨hX, hc4, a1, a2, a3, a4, a5, a6, a7, a8, a9⟩ := h
  unfold fL_opens
  rcases kop_open hX (b := b) c t x l with ⟨e, e1, he⟩ | ⟨v, M1, w1, T1, he, s, p1, p, p2⟩
  · exfalso
    have e1 : (oOk w c && ((rg t 0 2 && (rg x 0 1000000 && rg l 0 1000000)) && oSt w c)) = false := e1
    have k1 : oOk w c = true := by
      unfold oOk inb
      by_cases z : a = 2
      · rw [if_pos z] at hc
        rw [hc, decide_eq_true (show (0 : Int) ≤ 1 by decide), decide_eq_true (show (1 : Int) < w 1540 by omega), Bool.and_self, Bool.or_true]
      · rw [if_neg z] at hc; rw [hc]; rfl
    have k2 : oSt w c = true := by
      unfold oSt
      rw [decide_eq_true (show w 1540 < 10 by omega), Bool.and_true]
      by_cases z : a = 2
      · rw [if_pos z] at hc
        rw [hc, show w (1 : Int).toNat = -1 from a8 (by omega)]; rfl
      · rw [if_neg z] at hc; rw [hc]; rfl
    have k3 : rg t 0 2 = true := by unfold rg; rw [decide_eq_true ht.1, decide_eq_true ht.2]; rfl
    have k4 : rg x 0 1000000 = true := by unfold rg; rw [decide_eq_true hx.1, decide_eq_true hx.2]; rfl
    have k5 : rg l 0 1000000 = true := by unfold rg; rw [decide_eq_true hl.1, decide_eq_true hl.2]; rfl
    rw [k1, k2, k3, k4, k5] at e1; exact absurd e1 (by decide)
  · have e4 : M1 400 = M 400 := s.2.2.2.2 400 (by omega)
    refine ⟨M1, w1, T1, by rw [he, xbc_l, p1, a1]; rfl, e4, (s.cx hX).up (by omega), ⟨xup_same, ?_, ?_, ?_, ?_⟩, ?_⟩
    · rw [xup_k (by decide), e4]; exact hc4.2.1
    · rw [xup_k (by decide), e4]; exact hc4.2.2.1
    · rw [xup_k (by decide), e4]; exact hc4.2.2.2.1
    · rw [xup_k (by decide), e4]; exact hc4.2.2.2.2
    · rw [show (w 1540).toNat = a by omega] at p2
      subst p2
      have ne : ∀ j, j ≠ a → j ≠ 10 + a → j ≠ 20 + a → j ≠ 30 + a → j ≠ 50 + a → j ≠ 1540 → wOp w a c p t x l j = w j := fun j h1 h2 h3 h4 h5 h6 => by
        unfold wOp; rw [ups_ne h6, ups_ne h5, ups_ne h4, ups_ne h3, ups_ne h2, ups_ne h1]
      refine ⟨by unfold wOp; rw [ups_same]; omega, by rw [ne _ (by omega) (by omega) (by omega) (by omega) (by omega) (by omega)]; exact a2, by rw [ne _ (by omega) (by omega) (by omega) (by omega) (by omega) (by omega)]; exact a3, by rw [ne _ (by omega) (by omega) (by omega) (by omega) (by omega) (by omega)]; exact a4, by rw [ne _ (by omega) (by omega) (by omega) (by omega) (by omega) (by omega)]; exact a5, by rw [ne _ (by omega) (by omega) (by omega) (by omega) (by omega) (by omega)]; exact a6, fun d hd => by rw [ne _ (by omega) (by omega) (by omega) (by omega) (by omega) (by omega)]; exact a7 d hd, fun z => ?_, fun z => ?_⟩
      · by_cases y : a = 1
        · subst y
          rw [if_neg (by decide)] at hc
          unfold wOp
          rw [ups_ne (by omega), ups_ne (by omega), ups_ne (by omega), ups_ne (by omega), ups_ne (by omega), ups_same]; exact hc
        · rw [ne _ (by omega) (by omega) (by omega) (by omega) (by omega) (by omega)]; exact a8 (by omega)
      · by_cases y : a = 2
        · subst y
          rw [if_pos rfl] at hc
          unfold wOp
          rw [ups_ne (by omega), ups_ne (by omega), ups_ne (by omega), ups_ne (by omega), ups_ne (by omega), ups_same]; exact hc
        · rw [ne _ (by omega) (by omega) (by omega) (by omega) (by omega) (by omega)]; exact a9 (by omega)
theorem su_issue {M : xM} {w T : Nat → Int} {n k : Nat} (h : SU M w T n 6 k) (hk : k < 2) {u p : Int} (hu : 1 ≤ u ∧ u ≤ 100000) (hp : 1 ≤ p ∧ p ≤ 1000) : ∃ (M1 : xM) (w1 T1 : Nat → Int), fL_issues 0 (k : Int) u p M = some (.inl (k : Int), M1) ∧ M1 400 = M 400 ∧ SU (xup M1 400 1 ((k + 1 : Nat) : Int)) w1 T1 (n + 1) 6 (k + 1) := by
  obtain ⟨hX, hc4, a1, a2, a3, a4, a5, a6, a7, a8, a9⟩ := h
  unfold fL_issues
  rcases kop_issue hX (k : Int) 0 u p 100 with ⟨e, e1, he⟩ | ⟨v, M1, w1, T1, he, s, p1, p2⟩
  · exfalso
    have e1 : (inb (k : Int) (w 1540) && (iRg 0 u p 100 && decide (w 1541 < 4))) = false := e1
    have k1 : inb (k : Int) (w 1540) = true := inb_i (by omega)
    have k2 : iRg 0 u p 100 = true := by
      unfold iRg rg
      rw [decide_eq_true hu.1, decide_eq_true hu.2, decide_eq_true hp.1, decide_eq_true hp.2]; rfl
    rw [k1, k2, decide_eq_true (show w 1541 < 4 by omega)] at e1; exact absurd e1 (by decide)
  · have e4 : M1 400 = M 400 := s.2.2.2.2 400 (by omega)
    refine ⟨M1, w1, T1, by rw [he, xbc_l, p1, a2]; rfl, e4, (s.cx hX).up (by omega), ⟨?_, xup_same, ?_, ?_, ?_⟩, ?_⟩
    · rw [xup_k (by decide), e4]; exact hc4.1
    · rw [xup_k (by decide), e4]; exact hc4.2.2.1
    · rw [xup_k (by decide), e4]; exact hc4.2.2.2.1
    · rw [xup_k (by decide), e4]; exact hc4.2.2.2.2
    · rw [show (w 1541).toNat = k by omega, Int.toNat_natCast] at p2
      subst p2
      have ne : ∀ j, j ≠ 180 + k → j ≠ 184 + k → j ≠ 188 + k → j ≠ 192 + k → j ≠ 1541 → j ≠ 100 + 4 * k + k → wIs w k k 0 u p 100 j = w j := fun j h1 h2 h3 h4 h5 h6 => by
        unfold wIs; rw [ups_ne h6, ups_ne h5, ups_ne h4, ups_ne h3, ups_ne h2, ups_ne h1]
      exact ⟨by rw [ne _ (by omega) (by omega) (by omega) (by omega) (by omega) (by omega)]; exact a1, by unfold wIs; rw [ups_ne (by omega), ups_same]; omega, by rw [ne _ (by omega) (by omega) (by omega) (by omega) (by omega) (by omega)]; exact a3, by rw [ne _ (by omega) (by omega) (by omega) (by omega) (by omega) (by omega)]; exact a4, by rw [ne _ (by omega) (by omega) (by omega) (by omega) (by omega) (by omega)]; exact a5, by rw [ne _ (by omega) (by omega) (by omega) (by omega) (by omega) (by omega)]; exact a6, fun d hd => by rw [ne _ (by omega) (by omega) (by omega) (by omega) (by omega) (by omega)]; exact a7 d hd, fun z => by rw [ne _ (by omega) (by omega) (by omega) (by omega) (by omega) (by omega)]; exact a8 z, fun z => by rw [ne _ (by omega) (by omega) (by omega) (by omega) (by omega) (by omega)]; exact a9 z⟩
theorem su_124 {sl : Nat} {sx : Nat → Int32} : ∀ (k s m : Nat) (M : xM) (w T : Nat → Int) (n : Nat), s + k = 2 → k < m → SU M w T n 6 s → n ≤ 12 + s → OK1 (fL_law_124 sl sx 0 400 m (s : Int) 401 M)
  | _, _, 0, _, _, _, _, _, hm, _, _ => absurd hm (Nat.not_lt_zero _)
  | 0, s, m + 1, M, w, T, n, hk, _, h, hn => by
    have : s = 2 := by omega
    subst this
    obtain ⟨hX, hc4, a1, a2, a3, a4, a5, a6, a7, a8, a9⟩ := h
    have hLI : LI M w T n := ⟨hX, ⟨hc4.1, hc4.2.1, by rw [a3]; exact hc4.2.2.1, by rw [a4]; exact hc4.2.2.2.1, by rw [a5]; exact hc4.2.2.2.2⟩, a1, a2, ⟨0, by rw [a3]; rfl, by omega⟩, by omega, a9 (by omega), fun i _ hl => by omega, fun i _ hl => by omega, by rw [sm_0 6 (fun a ha => a7 a (by omega))]; decide⟩
    rw [fL_law_124, if_pos (by decide), hc4.1, if_pos (by decide), hc4.2.1, if_pos (by decide)]
    exact turns_ok 26 0 27 M w T n 401 (by omega) (by omega) hLI (by omega) (by omega) (by omega) (by omega)
  | k + 1, s, m + 1, M, w, T, n, hk, hm, h, hn => by
    obtain ⟨x, lx⟩ := cell_ok sl sx (x := w32 (6 + (s : Int))) (by rw [w32_i (by omega) (by omega)]; omega)
    obtain ⟨v1, r1, l1⟩ := low_ok x (show (0 : Int) < 200 by omega)
    obtain ⟨v2, r2, l2⟩ := low_ok (xshr x 4) (show (0 : Int) < 20 by omega)
    obtain ⟨M1, w1, T1, b1, b2, b3⟩ := su_issue h (by omega) (u := w32 (50 + v1)) (p := w32 (1 + v2)) (by rw [w32_i (by omega) (by omega)]; omega) (by rw [w32_i (by omega) (by omega)]; omega)
    rw [fL_law_124, if_neg (by omega), lx, xbc_l, l1, xbc_l, lx, xbc_l, l2, xbc_l, b1, xbc_l, if_pos rfl]
    unfold fL_law_181
    rw [xix_t (by omega) (by omega), h.2.1.2.1, w32_s (by omega)]
    show OK1 (fL_law_124 sl sx 0 400 m ((s + 1 : Nat) : Int) 401 (xup M1 400 1 ((s + 1 : Nat) : Int)))
    exact su_124 k (s + 1) m _ w1 T1 (n + 1) (by omega) (by omega) b3 (by omega)
theorem su_14 {sl : Nat} {sx : Nat → Int32} : ∀ (k a m : Nat) (M : xM) (w T : Nat → Int) (n : Nat), a + k = 6 → k < m → SU M w T n a 0 → n ≤ 2 * a → OK1 (fL_law_14 sl sx 0 400 m (a : Int) 401 M)
  | _, _, 0, _, _, _, _, _, hm, _, _ => absurd hm (Nat.not_lt_zero _)
  | 0, a, m + 1, M, w, T, n, hk, _, h, hn => by
    have : a = 6 := by omega
    subst this
    rw [fL_law_14, if_pos (by decide)]
    exact su_124 2 0 3 M w T n (by omega) (by omega) h (by omega)
  | k + 1, a, m + 1, M, w, T, n, hk, hm, h, hn => by
    obtain ⟨x, lx⟩ := cell_ok sl sx (x := (a : Int)) (by omega)
    obtain ⟨v0, r0, l0⟩ := low_ok x (show (0 : Int) < 2 by omega)
    obtain ⟨v1, r1, l1⟩ := low_ok (xshr x 1) (show (0 : Int) < 3 by omega)
    obtain ⟨v2, r2, l2⟩ := low_ok (xshr x 3) (show (0 : Int) < 5000 by omega)
    obtain ⟨v3, r3, l3⟩ := low_ok (xshr x 5) (show (0 : Int) < 800 by omega)
    obtain ⟨v4, r4, l4⟩ := low_ok (xshr x 8) (show (0 : Int) < 2 by omega)
    have ih : ∀ (M : xM) (w T : Nat → Int) (n : Nat), SU M w T n (a + 1) 0 → n ≤ 2 * (a + 1) → OK1 (fL_law_116 sl sx (fL_law_14 sl sx 0 400 m) 0 400 (a : Int) 401 M) := fun M w T n hh h1 => by
      unfold fL_law_116
      rw [w32_s (by omega)]
      exact su_14 k (a + 1) m M w T n (by omega) (by omega) hh h1
    have c : ∀ c b : Int, (c = if a = 2 then 1 else -1) → OK1 (fL_law_56 sl sx (fL_law_14 sl sx 0 400 m) 0 400 (a : Int) x b c 0 (M 400 0) 0 400 401 M) := fun c b hc => by
      obtain ⟨M1, w1, T1, b1, b2, b3⟩ := su_open h (b := b) (c := c) (t := v1) (x := v2) (l := v3) (by omega) hc (by omega) (by omega) (by omega)
      unfold fL_law_56
      rw [l1, xbc_l, l2, xbc_l, l3, xbc_l, b1, xbc_l, if_pos rfl]
      unfold fL_law_96
      rw [xix_t (by omega) (by omega), h.2.1.1, w32_s (by omega)]
      rw [xput_b, show Int.toNat 0 = 0 from rfl, l4, xbc_l]
      by_cases z : v4 = 0
      · rw [if_pos z]
        rcases kop_lend b3.1 (a : Int) with ⟨e, e1, he⟩ | ⟨v, M2, w2, T2, he, s, st⟩
        · exfalso
          have e1 : inb (a : Int) (w1 1540) = false := e1
          rw [inb_i (by rw [b3.2.2.1]; omega)] at e1; exact absurd e1 (by decide)
        · rw [he, xbc_l]
          exact ih M2 w2 T2 (n + 2) (b3.st s st) (by omega)
      · rw [if_neg z]
        exact ih _ w1 T1 (n + 1) b3 (by omega)
    rw [fL_law_14, if_neg (by omega), lx, xbc_l]
    unfold fL_law_42
    by_cases z2 : (a : Int) = 2
    · have z3 : a = 2 := by omega
      rw [if_pos z2, l0, xbc_l]
      by_cases z : v0 = 0
      · rw [if_pos z]; exact c 1 1 (by rw [if_pos z3])
      · rw [if_neg z]; exact c 1 0 (by rw [if_pos z3])
    · have z3 : a ≠ 2 := by omega
      rw [if_neg z2, l0, xbc_l]
      by_cases z : v0 = 0
      · rw [if_pos z]; exact c (-1) 1 (by rw [if_neg z3])
      · rw [if_neg z]; exact c (-1) 0 (by rw [if_neg z3])
