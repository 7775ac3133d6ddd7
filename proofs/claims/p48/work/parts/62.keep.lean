/-- places of one cell copied into another -/
def xcq (m : xM) (c0 c1 lo hi : Nat) : xM := fun a j => if a = c1 ∧ lo ≤ j ∧ j < hi then m c0 j else m a j
theorem xcq_s {m : xM} {c0 c1 lo k : Nat} (h : c0 ≠ c1) (hk : lo ≤ k) : xup (xcq m c0 c1 lo k) c1 k (xcq m c0 c1 lo k c0 k) = xcq m c0 c1 lo (k + 1) := by
  funext a j
  unfold xup xcq
  by_cases q : a = c1
  · rw [if_neg (show ¬ (c0 = c1 ∧ lo ≤ k ∧ k < k) from fun z => h z.1)]
    by_cases q2 : j = k
    · rw [if_pos ⟨q, q2⟩, if_pos ⟨q, by omega, by omega⟩, q2]
    · rw [if_neg (show ¬ (a = c1 ∧ j = k) from fun z => q2 z.2)]
      by_cases q3 : lo ≤ j ∧ j < k
      · rw [if_pos ⟨q, q3⟩, if_pos ⟨q, q3.1, by omega⟩]
      · rw [if_neg (fun z => q3 z.2), if_neg (fun z => q3 ⟨z.2.1, by omega⟩)]
  · rw [if_neg (fun z => q z.1), if_neg (fun z => q z.1), if_neg (fun z => q z.1)]
theorem xcq_0 {m : xM} {c0 c1 lo : Nat} : xcq m c0 c1 lo lo = m := by
  funext a j; unfold xcq; rw [if_neg (by omega)]
theorem xcq_c {m : xM} {c0 c1 lo hi a j : Nat} (h : a ≠ c1) : xcq m c0 c1 lo hi a j = m a j := if_neg (fun z => h z.1)
theorem xcq_h {m : xM} {c0 c1 lo hi : Nat} (h : c0 ≠ c1) (hl : lo < hi) : xcq (xup m c1 lo (m c0 lo)) c0 c1 (lo + 1) hi = xcq m c0 c1 lo hi := by
  funext a j
  unfold xcq
  by_cases q : a = c1
  · rw [xup_c h]
    by_cases q2 : j = lo
    · subst q2; rw [if_neg (by omega), if_pos ⟨q, by omega, by omega⟩, q, xup_same]
    · by_cases q3 : lo ≤ j ∧ j < hi
      · rw [if_pos ⟨q, by omega, by omega⟩, if_pos ⟨q, q3⟩]
      · rw [if_neg (by omega), if_neg (by omega), xup_ne (fun z => q2 z.2)]
  · rw [if_neg (fun z => q z.1), if_neg (fun z => q z.1), xup_c q]
theorem cf_sec {x0 x1 : Nat} (h : x1 ≠ x0) (M : xM) : fX9_copyFrom x0 x1 M = some (.inl 0, xcq M x1 x0 0 4) := by
  have g : fX9_copyFrom x0 x1 (xcq M x1 x0 0 0) = some (.inl 0, xcq M x1 x0 0 4) := by
    unfold fX9_copyFrom
    simp (disch := omega) only [xput_b, xcq_s h, Nat.reduceAdd]; rfl
  rw [xcq_0] at g; exact g
theorem cf_ins {x0 x1 : Nat} (h : x1 ≠ x0) (M : xM) : fX5_copyFrom x0 x1 M = some (.inl 0, xcq M x1 x0 0 13) := by
  have g : fX5_copyFrom x0 x1 (xcq M x1 x0 0 0) = some (.inl 0, xcq M x1 x0 0 13) := by
    unfold fX5_copyFrom
    simp (disch := omega) only [xput_b, xcq_s h, Nat.reduceAdd]; rfl
  rw [xcq_0] at g; exact g
theorem cf_trd {x0 x1 : Nat} (h : x1 ≠ x0) (M : xM) : fX10_copyFrom x0 x1 M = some (.inl 0, xcq M x1 x0 1 13) := by
  have g : fX10_copyFrom x0 x1 (xcq M x1 x0 1 1) = some (.inl 0, xcq M x1 x0 1 13) := by
    unfold fX10_copyFrom
    simp (disch := omega) only [xput_b, xcq_s h, Nat.reduceAdd]; rfl
  rw [xcq_0] at g; exact g
theorem cf_lnk {x0 x1 : Nat} (h : x1 ≠ x0) (M : xM) : fX6_copyFrom x0 x1 M = some (.inl 0, xcq M x1 x0 0 3) := by
  have g : fX6_copyFrom x0 x1 (xcq M x1 x0 0 0) = some (.inl 0, xcq M x1 x0 0 3) := by
    unfold fX6_copyFrom
    simp (disch := omega) only [xput_b, xcq_s h, Nat.reduceAdd]; rfl
  rw [xcq_0] at g; exact g
theorem cf_lon {x0 x1 : Nat} (h : x1 ≠ x0) (M : xM) : fX7_copyFrom x0 x1 M = some (.inl 0, xcq M x1 x0 0 7) := by
  have g : fX7_copyFrom x0 x1 (xcq M x1 x0 0 0) = some (.inl 0, xcq M x1 x0 0 7) := by
    unfold fX7_copyFrom
    simp (disch := omega) only [xput_b, xcq_s h, Nat.reduceAdd]; rfl
  rw [xcq_0] at g; exact g
theorem cf_arr {s d n : Nat} (h1 : xln s = n) (h2 : xln d = n) (hn : n < 100) (M : xM) : fX11_copyAll s d M = some (.inl 0, xcq M s d 0 n) := by
  unfold fX11_copyAll xcopy
  rw [h1, h2, if_pos (by omega)]
  have e : xcpy M s d (min (n : Int) (n : Int)).toNat = xcq M s d 0 n := by
    rw [show (min (n : Int) (n : Int)).toNat = n by omega]
    funext a j
    unfold xcpy xcq
    by_cases q : a = d ∧ j < n
    · rw [if_pos q, if_pos ⟨q.1, by omega, q.2⟩]
    · rw [if_neg q, if_neg (fun z => q ⟨z.1, z.2.2⟩)]
  rw [e]; rfl
def DS (D S : Nat) : Prop := (D = 0 ∧ S = 196) ∨ (D = 196 ∧ S = 0)
theorem lnf_acc : ∀ D, D < 197 → (D = 0 ∨ D = 196) → ∀ a : Nat, a < 11 → xr (D + 12 + 4 * a) 9 = D + 13 + 4 * a ∧ xr (D + 12 + 4 * a) 10 = D + 14 + 4 * a ∧ xr (D + 12 + 4 * a) 11 = D + 15 + 4 * a ∧ xln (D + 13 + 4 * a) = 4 ∧ xln (D + 14 + 4 * a) = 4 ∧ xln (D + 15 + 4 * a) = 44 := by
  intro D _ hD
  rcases hD with rfl | rfl
  · decide +kernel
  · decide +kernel
theorem lnf_evt : ∀ D, D < 197 → (D = 0 ∨ D = 196) → ∀ a : Nat, a < 11 → xr (D + 155 + 4 * a) 10 = D + 156 + 4 * a ∧ xr (D + 155 + 4 * a) 11 = D + 157 + 4 * a ∧ xr (D + 155 + 4 * a) 12 = D + 158 + 4 * a ∧ xln (D + 156 + 4 * a) = 10 ∧ xln (D + 157 + 4 * a) = 10 ∧ xln (D + 158 + 4 * a) = 20 := by
  intro D _ hD
  rcases hD with rfl | rfl
  · decide +kernel
  · decide +kernel
theorem lnf_bk : ∀ D, D < 197 → (D = 0 ∨ D = 196) → xr (D + 3) 1 = D + 4 ∧ xr (D + 3) 2 = D + 5 ∧ xr (D + 3) 3 = D + 6 ∧ xr (D + 3) 4 = D + 7 ∧ xr (D + 3) 5 = D + 8 ∧ xr (D + 3) 6 = D + 9 ∧ xr (D + 3) 7 = D + 10 ∧ xr (D + 3) 8 = D + 11 ∧ xln (D + 11) = 9 := by
  intro D _ hD
  rcases hD with rfl | rfl
  · decide +kernel
  · decide +kernel
theorem lnf_rw : ∀ D, D < 197 → (D = 0 ∨ D = 196) → (∀ a : Nat, a < 11 → xr (D + 4) a = D + 12 + 4 * a ∧ xr (D + 8) a = D + 123 + a ∧ xr (D + 10) a = D + 155 + 4 * a) ∧ (∀ a : Nat, a < 5 → xr (D + 5) a = D + 56 + a) ∧ (∀ a : Nat, a < 41 → xr (D + 6) a = D + 61 + a) ∧ (∀ a : Nat, a < 21 → xr (D + 7) a = D + 102 + a ∧ xr (D + 9) a = D + 134 + a) := by
  intro D _ hD
  rcases hD with rfl | rfl
  · decide +kernel
  · decide +kernel
theorem cf_acc {x0 x1 : Nat} (h : x1 ≠ x0) {p0 p1 p2 q0 q1 q2 : Nat} (h0 : xr x0 9 = p0) (h1 : xr x0 10 = p1) (h2 : xr x0 11 = p2) (g0 : xr x1 9 = q0) (g1 : xr x1 10 = q1) (g2 : xr x1 11 = q2) (l0 : xln p0 = 4) (l1 : xln p1 = 4) (l2 : xln p2 = 44) (k0 : xln q0 = 4) (k1 : xln q1 = 4) (k2 : xln q2 = 44) (M : xM) : fX0_copyFrom x0 x1 M = some (.inl 0, xcq (xcq (xcq (xcq M x1 x0 0 9) q0 p0 0 4) q1 p1 0 4) q2 p2 0 44) := by
  have g : fX0_copyFrom x0 x1 (xcq M x1 x0 0 0) = some (.inl 0, xcq (xcq (xcq (xcq M x1 x0 0 9) q0 p0 0 4) q1 p1 0 4) q2 p2 0 44) := by
    unfold fX0_copyFrom
    simp (disch := omega) only [xput_b, xcq_s h, Nat.reduceAdd]
    rw [h0, h1, h2, g0, g1, g2, cf_arr k0 l0 (by omega), xb_l, cf_arr k1 l1 (by omega), xb_l, cf_arr k2 l2 (by omega), xb_l]; rfl
  rw [xcq_0] at g; exact g
theorem cf_evt {x0 x1 : Nat} (h : x1 ≠ x0) {p0 p1 p2 q0 q1 q2 : Nat} (h0 : xr x0 10 = p0) (h1 : xr x0 11 = p1) (h2 : xr x0 12 = p2) (g0 : xr x1 10 = q0) (g1 : xr x1 11 = q1) (g2 : xr x1 12 = q2) (l0 : xln p0 = 10) (l1 : xln p1 = 10) (l2 : xln p2 = 20) (k0 : xln q0 = 10) (k1 : xln q1 = 10) (k2 : xln q2 = 20) (M : xM) : fX4_copyFrom x0 x1 M = some (.inl 0, xcq (xcq (xcq (xcq M x1 x0 0 10) q0 p0 0 10) q1 p1 0 10) q2 p2 0 20) := by
  have g : fX4_copyFrom x0 x1 (xcq M x1 x0 0 0) = some (.inl 0, xcq (xcq (xcq (xcq M x1 x0 0 10) q0 p0 0 10) q1 p1 0 10) q2 p2 0 20) := by
    unfold fX4_copyFrom
    simp (disch := omega) only [xput_b, xcq_s h, Nat.reduceAdd]
    rw [h0, h1, h2, g0, g1, g2, cf_arr k0 l0 (by omega), xb_l, cf_arr k1 l1 (by omega), xb_l, cf_arr k2 l2 (by omega), xb_l]; rfl
  rw [xcq_0] at g; exact g
theorem cf_cnt {x0 x1 : Nat} (h : x1 ≠ x0) (M : xM) : fX1_copyCounts x0 x1 M = some (.inl 0, xcq M x1 x0 9 18) := by
  have g : fX1_copyCounts x0 x1 (xcq M x1 x0 9 9) = some (.inl 0, xcq M x1 x0 9 18) := by
    unfold fX1_copyCounts
    simp (disch := omega) only [xput_b, xcq_s h, Nat.reduceAdd]; rfl
  rw [xcq_0] at g; exact g
/-- the cells below lo are copied, from the book at S to that at D -/
def cpL (c : Nat) : Nat := if 102 ≤ c then (if c < 123 then 1 else 0) else 0
def cpH (c : Nat) : Nat := if c < 56 then (if (c - 12) % 4 = 0 then 9 else if (c - 12) % 4 = 3 then 44 else 4) else if c < 61 then 4 else if c < 123 then 13 else if c < 134 then 3 else if c < 155 then 7 else if (c - 155) % 4 = 3 then 20 else 10
def CP (D S lo : Nat) (M M' : xM) : Prop := ∀ c k, M' c k = if D + 12 ≤ c ∧ c < D + lo ∧ cpL (c - D) ≤ k ∧ k < cpH (c - D) then M (S + (c - D)) k else M c k
theorem CP.step {D S lo l h : Nat} {M M' : xM} (hp : CP D S lo M M') (hlo : 12 ≤ lo ∧ lo < 199) (hD : DS D S) (hl : cpL lo = l) (hh : cpH lo = h) {c d : Nat} (hc : c = S + lo) (hd : d = D + lo) : CP D S (lo + 1) M (xcq M' c d l h) := by
  subst hl hh hc hd
  unfold DS at hD
  intro c k
  unfold xcq
  by_cases q : c = D + lo
  · subst q
    rw [show D + lo - D = lo by omega]
    by_cases q2 : cpL lo ≤ k ∧ k < cpH lo
    · rw [if_pos ⟨rfl, q2⟩, if_pos ⟨by omega, by omega, q2⟩, hp, if_neg (by omega)]
    · rw [if_neg (fun z => q2 z.2), if_neg (fun z => q2 z.2.2), hp, if_neg (by omega)]
  · rw [if_neg (fun z => q z.1), hp c k]
    by_cases q2 : D + 12 ≤ c ∧ c < D + lo ∧ cpL (c - D) ≤ k ∧ k < cpH (c - D)
    · rw [if_pos q2, if_pos ⟨q2.1, by omega, q2.2.2⟩]
    · rw [if_neg q2, if_neg (fun z => q2 ⟨z.1, by omega, z.2.2⟩)]
theorem DS.d {D S : Nat} (h : DS D S) : D < 197 ∧ (D = 0 ∨ D = 196) := by unfold DS at h; omega
theorem DS.s {D S : Nat} (h : DS D S) : S < 197 ∧ (S = 0 ∨ S = 196) := by unfold DS at h; omega
theorem DS.ne {D S : Nat} (h : DS D S) (x : Nat) : S + x ≠ D + x := by unfold DS at h; omega
theorem cD_acc {D : Nat} (hD : D < 197 ∧ (D = 0 ∨ D = 196)) {a : Nat} (ha : a < 11) (M : xM) : fX1_account (D + 3) (a : Int) M = some (.inl ((D + 12 + 4 * a : Nat) : Int), M) := by
  obtain ⟨b1, b2, b3, b4, b5, b6, b7, b8, b9⟩ := lnf_bk D hD.1 hD.2
  obtain ⟨r1, r2, r3, r4⟩ := lnf_rw D hD.1 hD.2
  unfold fX1_account
  rw [if_neg (by omega), if_pos (by omega), xix_t (by omega) (by omega), b1, Int.toNat_natCast, (r1 a ha).1]; rfl
theorem cD_sec {D : Nat} (hD : D < 197 ∧ (D = 0 ∨ D = 196)) {a : Nat} (ha : a < 5) (M : xM) : fX1_security (D + 3) (a : Int) M = some (.inl ((D + 56 + a : Nat) : Int), M) := by
  obtain ⟨b1, b2, b3, b4, b5, b6, b7, b8, b9⟩ := lnf_bk D hD.1 hD.2
  obtain ⟨r1, r2, r3, r4⟩ := lnf_rw D hD.1 hD.2
  unfold fX1_security
  rw [if_neg (by omega), if_pos (by omega), xix_t (by omega) (by omega), b2, Int.toNat_natCast, r2 a ha]; rfl
theorem cD_ins {D : Nat} (hD : D < 197 ∧ (D = 0 ∨ D = 196)) {a : Nat} (ha : a < 41) (M : xM) : fX1_instruction (D + 3) (a : Int) M = some (.inl ((D + 61 + a : Nat) : Int), M) := by
  obtain ⟨b1, b2, b3, b4, b5, b6, b7, b8, b9⟩ := lnf_bk D hD.1 hD.2
  obtain ⟨r1, r2, r3, r4⟩ := lnf_rw D hD.1 hD.2
  unfold fX1_instruction
  rw [if_neg (by omega), if_pos (by omega), xix_t (by omega) (by omega), b3, Int.toNat_natCast, r3 a ha]; rfl
theorem cD_trd {D : Nat} (hD : D < 197 ∧ (D = 0 ∨ D = 196)) {a : Nat} (ha : a < 21) (M : xM) : fX1_trade (D + 3) (a : Int) M = some (.inl ((D + 102 + a : Nat) : Int), M) := by
  obtain ⟨b1, b2, b3, b4, b5, b6, b7, b8, b9⟩ := lnf_bk D hD.1 hD.2
  obtain ⟨r1, r2, r3, r4⟩ := lnf_rw D hD.1 hD.2
  unfold fX1_trade
  rw [if_neg (by omega), if_pos (by omega), xix_t (by omega) (by omega), b4, Int.toNat_natCast, (r4 a ha).1]; rfl
theorem cD_lnk {D : Nat} (hD : D < 197 ∧ (D = 0 ∨ D = 196)) {a : Nat} (ha : a < 11) (M : xM) : fX1_linkAt (D + 3) (a : Int) M = some (.inl ((D + 123 + a : Nat) : Int), M) := by
  obtain ⟨b1, b2, b3, b4, b5, b6, b7, b8, b9⟩ := lnf_bk D hD.1 hD.2
  obtain ⟨r1, r2, r3, r4⟩ := lnf_rw D hD.1 hD.2
  unfold fX1_linkAt
  rw [if_neg (by omega), if_pos (by omega), xix_t (by omega) (by omega), b5, Int.toNat_natCast, (r1 a ha).2.1]; rfl
theorem cD_lon {D : Nat} (hD : D < 197 ∧ (D = 0 ∨ D = 196)) {a : Nat} (ha : a < 21) (M : xM) : fX1_loanAt (D + 3) (a : Int) M = some (.inl ((D + 134 + a : Nat) : Int), M) := by
  obtain ⟨b1, b2, b3, b4, b5, b6, b7, b8, b9⟩ := lnf_bk D hD.1 hD.2
  obtain ⟨r1, r2, r3, r4⟩ := lnf_rw D hD.1 hD.2
  unfold fX1_loanAt
  rw [if_neg (by omega), if_pos (by omega), xix_t (by omega) (by omega), b6, Int.toNat_natCast, (r4 a ha).2]; rfl
theorem cD_evt {D : Nat} (hD : D < 197 ∧ (D = 0 ∨ D = 196)) {a : Nat} (ha : a < 11) (M : xM) : fX1_event (D + 3) (a : Int) M = some (.inl ((D + 155 + 4 * a : Nat) : Int), M) := by
  obtain ⟨b1, b2, b3, b4, b5, b6, b7, b8, b9⟩ := lnf_bk D hD.1 hD.2
  obtain ⟨r1, r2, r3, r4⟩ := lnf_rw D hD.1 hD.2
  unfold fX1_event
  rw [if_neg (by omega), if_pos (by omega), xix_t (by omega) (by omega), b7, Int.toNat_natCast, (r1 a ha).2.2]; rfl
theorem cpl_acc : ∀ a : Nat, a < 11 → cpL (12 + 4 * a) = 0 ∧ cpH (12 + 4 * a) = 9 ∧ cpL (12 + 4 * a + 1) = 0 ∧ cpH (12 + 4 * a + 1) = 4 ∧ cpL (12 + 4 * a + 1 + 1) = 0 ∧ cpH (12 + 4 * a + 1 + 1) = 4 ∧ cpL (12 + 4 * a + 1 + 1 + 1) = 0 ∧ cpH (12 + 4 * a + 1 + 1 + 1) = 44 := by decide +kernel
theorem cpl_evt : ∀ a : Nat, a < 11 → cpL (155 + 4 * a) = 0 ∧ cpH (155 + 4 * a) = 10 ∧ cpL (155 + 4 * a + 1) = 0 ∧ cpH (155 + 4 * a + 1) = 10 ∧ cpL (155 + 4 * a + 1 + 1) = 0 ∧ cpH (155 + 4 * a + 1 + 1) = 10 ∧ cpL (155 + 4 * a + 1 + 1 + 1) = 0 ∧ cpH (155 + 4 * a + 1 + 1 + 1) = 20 := by decide +kernel
theorem cpl_sec : ∀ a : Nat, a < 5 → cpL (56 + a) = 0 ∧ cpH (56 + a) = 4 := by decide +kernel
theorem cpl_ins : ∀ a : Nat, a < 41 → cpL (61 + a) = 0 ∧ cpH (61 + a) = 13 := by decide +kernel
theorem cpl_trd : ∀ a : Nat, a < 21 → cpL (102 + a) = 1 ∧ cpH (102 + a) = 13 := by decide +kernel
theorem cpl_lnk : ∀ a : Nat, a < 11 → cpL (123 + a) = 0 ∧ cpH (123 + a) = 3 := by decide +kernel
theorem cpl_lon : ∀ a : Nat, a < 21 → cpL (134 + a) = 0 ∧ cpH (134 + a) = 7 := by decide +kernel
theorem cp_acc {D S : Nat} (hD : DS D S) {M : xM} : ∀ (k a n : Nat) (M1 : xM), a + k = 11 → k < n → CP D S (12 + 4 * a) M M1 → ∃ M2, fX1_copyFrom_2 (D + 3) (S + 3) n (a : Int) M1 = fX1_copyFrom_29 (D + 3) (S + 3) xN 0 M2 ∧ CP D S 56 M M2
  | _, _, 0, _, _, hn, _ => absurd hn (Nat.not_lt_zero _)
  | 0, a, n + 1, M1, ha, _, hp => by
    refine ⟨M1, ?_, by rw [show 12 + 4 * a = 56 by omega] at hp; exact hp⟩
    rw [fX1_copyFrom_2, if_pos (by omega)]
  | k + 1, a, n + 1, M1, ha, hn, hp => by
    obtain ⟨p0, p1, p2, p3, p4, p5⟩ := lnf_acc D hD.d.1 hD.d.2 a (by omega)
    obtain ⟨q0, q1, q2, q3, q4, q5⟩ := lnf_acc S hD.s.1 hD.s.2 a (by omega)
    obtain ⟨l0, l1, l2, l3, l4, l5, l6, l7⟩ := cpl_acc a (by omega)
    rw [fX1_copyFrom_2, if_neg (by omega), cD_acc hD.d (by omega), xb_l, cD_acc hD.s (by omega), xb_l, Int.toNat_natCast, Int.toNat_natCast, cf_acc (by have := hD.ne (12 + 4 * a); omega) p0 p1 p2 q0 q1 q2 p3 p4 p5 q3 q4 q5, xb_l, w32_s (by omega)]
    have s1 := hp.step (by omega) hD l0 l1 (c := S + 12 + 4 * a) (d := D + 12 + 4 * a) (by omega) (by omega)
    have s2 := s1.step (by omega) hD l2 l3 (c := S + 13 + 4 * a) (d := D + 13 + 4 * a) (by omega) (by omega)
    have s3 := s2.step (by omega) hD l4 l5 (c := S + 14 + 4 * a) (d := D + 14 + 4 * a) (by omega) (by omega)
    have s4 := s3.step (by omega) hD l6 l7 (c := S + 15 + 4 * a) (d := D + 15 + 4 * a) (by omega) (by omega)
    exact cp_acc hD k (a + 1) n _ (by omega) (by omega) s4
theorem cp_sec {D S : Nat} (hD : DS D S) {M : xM} : ∀ (k a n : Nat) (M1 : xM), a + k = 5 → k < n → CP D S (56 + a) M M1 → ∃ M2, fX1_copyFrom_29 (D + 3) (S + 3) n (a : Int) M1 = fX1_copyFrom_55 (D + 3) (S + 3) xN 0 M2 ∧ CP D S 61 M M2
  | _, _, 0, _, _, hn, _ => absurd hn (Nat.not_lt_zero _)
  | 0, a, n + 1, M1, ha, _, hp => by
    refine ⟨M1, ?_, by rw [show 56 + a = 61 by omega] at hp; exact hp⟩
    rw [fX1_copyFrom_29, if_pos (by omega)]
  | k + 1, a, n + 1, M1, ha, hn, hp => by
    obtain ⟨l0, l1⟩ := cpl_sec a (by omega)
    rw [fX1_copyFrom_29, if_neg (by omega), cD_sec hD.d (by omega), xb_l, cD_sec hD.s (by omega), xb_l, Int.toNat_natCast, Int.toNat_natCast, cf_sec (by have := hD.ne (56 + a); omega), xb_l, w32_s (by omega)]
    have s1 := hp.step (by omega) hD l0 l1 (c := S + 56 + a) (d := D + 56 + a) (by omega) (by omega)
    exact cp_sec hD k (a + 1) n _ (by omega) (by omega) s1
theorem cp_ins {D S : Nat} (hD : DS D S) {M : xM} : ∀ (k a n : Nat) (M1 : xM), a + k = 41 → k < n → CP D S (61 + a) M M1 → ∃ M2, fX1_copyFrom_55 (D + 3) (S + 3) n (a : Int) M1 = fX1_copyFrom_82 (D + 3) (S + 3) xN 0 M2 ∧ CP D S 102 M M2
  | _, _, 0, _, _, hn, _ => absurd hn (Nat.not_lt_zero _)
  | 0, a, n + 1, M1, ha, _, hp => by
    refine ⟨M1, ?_, by rw [show 61 + a = 102 by omega] at hp; exact hp⟩
    rw [fX1_copyFrom_55, if_pos (by omega)]
  | k + 1, a, n + 1, M1, ha, hn, hp => by
    obtain ⟨l0, l1⟩ := cpl_ins a (by omega)
    rw [fX1_copyFrom_55, if_neg (by omega), cD_ins hD.d (by omega), xb_l, cD_ins hD.s (by omega), xb_l, Int.toNat_natCast, Int.toNat_natCast, cf_ins (by have := hD.ne (61 + a); omega), xb_l, w32_s (by omega)]
    have s1 := hp.step (by omega) hD l0 l1 (c := S + 61 + a) (d := D + 61 + a) (by omega) (by omega)
    exact cp_ins hD k (a + 1) n _ (by omega) (by omega) s1
theorem cp_trd {D S : Nat} (hD : DS D S) {M : xM} : ∀ (k a n : Nat) (M1 : xM), a + k = 21 → k < n → CP D S (102 + a) M M1 → ∃ M2, fX1_copyFrom_82 (D + 3) (S + 3) n (a : Int) M1 = fX1_copyFrom_109 (D + 3) (S + 3) xN 0 M2 ∧ CP D S 123 M M2
  | _, _, 0, _, _, hn, _ => absurd hn (Nat.not_lt_zero _)
  | 0, a, n + 1, M1, ha, _, hp => by
    refine ⟨M1, ?_, by rw [show 102 + a = 123 by omega] at hp; exact hp⟩
    rw [fX1_copyFrom_82, if_pos (by omega)]
  | k + 1, a, n + 1, M1, ha, hn, hp => by
    obtain ⟨l0, l1⟩ := cpl_trd a (by omega)
    rw [fX1_copyFrom_82, if_neg (by omega), cD_trd hD.d (by omega), xb_l, cD_trd hD.s (by omega), xb_l, Int.toNat_natCast, Int.toNat_natCast, cf_trd (by have := hD.ne (102 + a); omega), xb_l, w32_s (by omega)]
    have s1 := hp.step (by omega) hD l0 l1 (c := S + 102 + a) (d := D + 102 + a) (by omega) (by omega)
    exact cp_trd hD k (a + 1) n _ (by omega) (by omega) s1
theorem cp_lnk {D S : Nat} (hD : DS D S) {M : xM} : ∀ (k a n : Nat) (M1 : xM), a + k = 11 → k < n → CP D S (123 + a) M M1 → ∃ M2, fX1_copyFrom_109 (D + 3) (S + 3) n (a : Int) M1 = fX1_copyFrom_136 (D + 3) (S + 3) xN 0 M2 ∧ CP D S 134 M M2
  | _, _, 0, _, _, hn, _ => absurd hn (Nat.not_lt_zero _)
  | 0, a, n + 1, M1, ha, _, hp => by
    refine ⟨M1, ?_, by rw [show 123 + a = 134 by omega] at hp; exact hp⟩
    rw [fX1_copyFrom_109, if_pos (by omega)]
  | k + 1, a, n + 1, M1, ha, hn, hp => by
    obtain ⟨l0, l1⟩ := cpl_lnk a (by omega)
    rw [fX1_copyFrom_109, if_neg (by omega), cD_lnk hD.d (by omega), xb_l, cD_lnk hD.s (by omega), xb_l, Int.toNat_natCast, Int.toNat_natCast, cf_lnk (by have := hD.ne (123 + a); omega), xb_l, w32_s (by omega)]
    have s1 := hp.step (by omega) hD l0 l1 (c := S + 123 + a) (d := D + 123 + a) (by omega) (by omega)
    exact cp_lnk hD k (a + 1) n _ (by omega) (by omega) s1
theorem cp_lon {D S : Nat} (hD : DS D S) {M : xM} : ∀ (k a n : Nat) (M1 : xM), a + k = 21 → k < n → CP D S (134 + a) M M1 → ∃ M2, fX1_copyFrom_136 (D + 3) (S + 3) n (a : Int) M1 = fX1_copyFrom_163 (D + 3) (S + 3) xN 0 M2 ∧ CP D S 155 M M2
  | _, _, 0, _, _, hn, _ => absurd hn (Nat.not_lt_zero _)
  | 0, a, n + 1, M1, ha, _, hp => by
    refine ⟨M1, ?_, by rw [show 134 + a = 155 by omega] at hp; exact hp⟩
    rw [fX1_copyFrom_136, if_pos (by omega)]
  | k + 1, a, n + 1, M1, ha, hn, hp => by
    obtain ⟨l0, l1⟩ := cpl_lon a (by omega)
    rw [fX1_copyFrom_136, if_neg (by omega), cD_lon hD.d (by omega), xb_l, cD_lon hD.s (by omega), xb_l, Int.toNat_natCast, Int.toNat_natCast, cf_lon (by have := hD.ne (134 + a); omega), xb_l, w32_s (by omega)]
    have s1 := hp.step (by omega) hD l0 l1 (c := S + 134 + a) (d := D + 134 + a) (by omega) (by omega)
    exact cp_lon hD k (a + 1) n _ (by omega) (by omega) s1
theorem cp_evt {D S : Nat} (hD : DS D S) {M : xM} : ∀ (k a n : Nat) (M1 : xM), a + k = 11 → k < n → CP D S (155 + 4 * a) M M1 → ∃ M2, fX1_copyFrom_163 (D + 3) (S + 3) n (a : Int) M1 = some (.inl 0, xcq (xcq M2 (S + 11) (D + 11) 0 9) (S + 3) (D + 3) 9 18) ∧ CP D S 199 M M2
  | _, _, 0, _, _, hn, _ => absurd hn (Nat.not_lt_zero _)
  | 0, a, n + 1, M1, ha, _, hp => by
    obtain ⟨-, -, -, -, -, -, -, b8, b9⟩ := lnf_bk D hD.d.1 hD.d.2
    obtain ⟨-, -, -, -, -, -, -, e8, e9⟩ := lnf_bk S hD.s.1 hD.s.2
    refine ⟨M1, ?_, by rw [show 155 + 4 * a = 199 by omega] at hp; exact hp⟩
    rw [fX1_copyFrom_163, if_pos (by omega), b8, e8, cf_arr e9 b9 (by omega), xb_l, cf_cnt (hD.ne 3), xb_l]; rfl
  | k + 1, a, n + 1, M1, ha, hn, hp => by
    obtain ⟨p0, p1, p2, p3, p4, p5⟩ := lnf_evt D hD.d.1 hD.d.2 a (by omega)
    obtain ⟨q0, q1, q2, q3, q4, q5⟩ := lnf_evt S hD.s.1 hD.s.2 a (by omega)
    obtain ⟨l0, l1, l2, l3, l4, l5, l6, l7⟩ := cpl_evt a (by omega)
    rw [fX1_copyFrom_163, if_neg (by omega), cD_evt hD.d (by omega), xb_l, cD_evt hD.s (by omega), xb_l, Int.toNat_natCast, Int.toNat_natCast, cf_evt (by have := hD.ne (155 + 4 * a); omega) p0 p1 p2 q0 q1 q2 p3 p4 p5 q3 q4 q5, xb_l, w32_s (by omega)]
    have s1 := hp.step (by omega) hD l0 l1 (c := S + 155 + 4 * a) (d := D + 155 + 4 * a) (by omega) (by omega)
    have s2 := s1.step (by omega) hD l2 l3 (c := S + 156 + 4 * a) (d := D + 156 + 4 * a) (by omega) (by omega)
    have s3 := s2.step (by omega) hD l4 l5 (c := S + 157 + 4 * a) (d := D + 157 + 4 * a) (by omega) (by omega)
    have s4 := s3.step (by omega) hD l6 l7 (c := S + 158 + 4 * a) (d := D + 158 + 4 * a) (by omega) (by omega)
    exact cp_evt hD k (a + 1) n _ (by omega) (by omega) s4
def cpd (c k : Nat) : Prop := (12 ≤ c ∧ c < 199 ∧ cpL c ≤ k ∧ k < cpH c) ∨ (c = 11 ∧ k < 9) ∨ (c = 3 ∧ 9 ≤ k ∧ k < 18)
theorem cf_book {D S : Nat} (hD : DS D S) (M : xM) : ∃ M', fX1_copyFrom (D + 3) (S + 3) M = some (.inl 0, M') ∧ (∀ c k, cpd c k → M' (D + c) k = M (S + c) k) ∧ (∀ c, (c < D + 3 ∨ D + 199 ≤ c) → M' c = M c) ∧ ∀ t : Nat, t < 20 → M' (D + 102 + t) 0 = M (D + 102 + t) 0 := by
  have c0 : CP D S (12 + 4 * 0) M M := fun c k => by rw [if_neg (by omega)]
  obtain ⟨M1, e1, c1⟩ := cp_acc hD 11 0 xN M (by omega) (by unfold xN; omega) c0
  obtain ⟨M2, e2, c2⟩ := cp_sec hD 5 0 xN M1 (by omega) (by unfold xN; omega) c1
  obtain ⟨M3, e3, c3⟩ := cp_ins hD 41 0 xN M2 (by omega) (by unfold xN; omega) c2
  obtain ⟨M4, e4, c4⟩ := cp_trd hD 21 0 xN M3 (by omega) (by unfold xN; omega) c3
  obtain ⟨M5, e5, c5⟩ := cp_lnk hD 11 0 xN M4 (by omega) (by unfold xN; omega) c4
  obtain ⟨M6, e6, c6⟩ := cp_lon hD 21 0 xN M5 (by omega) (by unfold xN; omega) c5
  obtain ⟨M7, e7, c7⟩ := cp_evt hD 11 0 xN M6 (by omega) (by unfold xN; omega) c6
  have hE : fX1_copyFrom (D + 3) (S + 3) M = some (.inl 0, xcq (xcq M7 (S + 11) (D + 11) 0 9) (S + 3) (D + 3) 9 18) := by
    unfold fX1_copyFrom
    exact e1.trans (e2.trans (e3.trans (e4.trans (e5.trans (e6.trans e7)))))
  unfold DS at hD
  refine ⟨_, hE, fun c k hc => ?_, fun c hc => ?_, fun t ht => ?_⟩
  · unfold cpd at hc
    unfold xcq
    rcases hc with hc | hc | hc
    · rw [if_neg (by omega), if_neg (by omega), c7, show D + c - D = c by omega, if_pos (by omega)]
    · rw [if_neg (by omega), if_pos (by omega), c7, if_neg (by omega), hc.1]
    · rw [if_pos (by omega), if_neg (by omega), c7, if_neg (by omega), hc.1]
  · funext k
    unfold xcq
    rw [if_neg (by omega), if_neg (by omega), c7, if_neg (by omega)]
  · unfold xcq
    rw [if_neg (by omega), if_neg (by omega), c7, show D + 102 + t - D = 102 + t by omega, (cpl_trd t (by omega)).1, if_neg (by omega)]
theorem jc_44 {c k : Nat} (h : 44 ≤ k) : jc c k = 9999 := by
  unfold jc jcA jcS jcI jcT jcK jcL jcE
  simp (disch := omega) only [if_neg, ite_self]
def cpb (c k : Nat) : Bool := frc c k || ((decide (12 ≤ c) && (decide (cpL c ≤ k) && decide (k < cpH c))) || ((decide (c = 11) && decide (k < 9)) || ((decide (c = 3) && (decide (9 ≤ k) && decide (k < 18))) || (decide (102 ≤ c) && (decide (c < 122) && decide (k = 0))))))
theorem cpd_frc : ∀ c : Nat, c < 195 → ∀ k : Nat, k < 44 → cpb c k = true := by decide +kernel
theorem cpd_of {c k : Nat} (h : frc c k = false) : cpd c k ∨ (102 ≤ c ∧ c < 122 ∧ k = 0) := by
  by_cases q : 195 ≤ c
  · rw [frc_out (Or.inr q)] at h; cases h
  · by_cases q2 : k < 44
    · have g := cpd_frc c (by omega) k q2
      unfold cpb at g
      rw [h, Bool.false_or] at g
      simp only [Bool.or_eq_true, Bool.and_eq_true, decide_eq_true_eq] at g
      unfold cpd; omega
    · have : frc c k = true := by
        unfold frc; rw [jc_44 (by omega)]; simp; omega
      rw [this] at h; cases h
theorem R.wfr {M : xM} {w w' : Nat → Int} (h : R M w) (hw : ∀ j, j < 1550 → w' j = w j) : R M w' :=
  ⟨fun j hj hl => by
    rw [live_eq (hw 1540 (by omega)) (hw 1542 (by omega)) (hw 1544 (by omega)) (hw 1545 (by omega))] at hl
    rw [hw j (mpd_lt hj)]; exact h.1 j hj hl, h.2.1.fr (fun _ _ _ => rfl) (fun j q => hw j (by simp [tjT] at q; omega)), h.2.2.1.fr (fun _ _ => ⟨rfl, rfl⟩) (fun l q => hw _ (by omega)) (hw 1545 (by omega)), h.2.2.2.fr (fun _ _ => rfl) (fun _ _ _ => ⟨rfl, rfl⟩) (fun _ _ _ => rfl) (Int.le_of_eq (hw 1545 (by omega)).symm) (Int.le_of_eq (hw 1542 (by omega)).symm)⟩
theorem Inv0.wfr {w w' : Nat → Int} (h : Inv0 w) (hw : ∀ j, j < 1550 → w' j = w j) : Inv0 w' := by
  obtain ⟨hC, hA, hS, hH, hI, hT, hK, hL, hE⟩ := h
  exact ⟨hC.fr (fun j _ _ => hw j (by omega)), hA.fr hC (fun j _ => hw j (by omega)), hS.fr (fun j _ => hw j (by omega)), hH.fr (fun j _ => hw j (by omega)), hI.fr hC (fun j _ => hw j (by omega)), hT.fr hC (fun j _ => hw j (by omega)), hK.fr (fun j _ => hw j (by omega)), hL.fr (fun j _ => hw j (by omega)), hE.fr (fun j _ => hw j (by omega))⟩
theorem Inv.wfr {n : Int} {w w' : Nat → Int} (h : Inv n w) (hw : ∀ j, j < 1550 → w' j = w j) : Inv n w' :=
  ⟨h.1.wfr hw, h.2.1.fr (fun j _ => hw j (by omega)), h.2.2.fr (fun j _ _ => hw j (by omega))⟩
theorem MV.wfr {M : xM} {w w' : Nat → Int} (h : MV M w) (hw : ∀ j, j < 1550 → w' j = w j) : MV M w' :=
  h.fr rfl (fun _ _ => rfl) (fun _ _ => rfl) (fun j _ _ => hw j (by omega)) (fun e _ => hw _ (by omega)) (fun e _ _ => hw _ (by omega)) (fun j _ _ => hw j (by omega))
theorem MV.cpf {M M' : xM} {w : Nat → Int} (h : MV M w) (h1 : M' 3 17 = M 3 17) (h2 : ∀ a k : Nat, a < 10 → k < 44 → M' (15 + 4 * a) k = M (15 + 4 * a) k) (h3 : ∀ e : Nat, e < 10 → M' (155 + 4 * e) 9 = M (155 + 4 * e) 9) (h4 : ∀ e : Nat, e < 10 → w (1120 + e) = 1 → (w (1060 + e)).toNat < 4) : MV M' w := by
  have em : ∀ a s p, a < 10 → s < 4 → p ≤ 11 → mvs M' a s p = mvs M a s p := fun a s p ha hs hp => by unfold mvs; exact sm_eq p (fun x hx => h2 a _ ha (by omega))
  have hl := np_le w 10
  obtain ⟨a1, a2, a3⟩ := h
  refine ⟨by rw [h1]; exact a1, fun a s ha hs => ⟨by rw [em a s 11 ha hs (by omega)]; exact (a2 a s ha hs).1, fun p p1 p2 => by rw [h2 a _ ha (by omega)]; exact (a2 a s ha hs).2 p p1 p2⟩, fun e he hn => ?_⟩
  obtain ⟨q, q1, q2, q3⟩ := a3 e he hn
  exact ⟨q, by rw [h3 e he]; exact q1, q2, fun a ha => by rw [em a _ _ ha (h4 e he hn) (by omega)]; exact q3 a ha⟩
theorem R.cpR {M M' : xM} {w : Nat → Int} (h : R M w) (hc : ∀ c k, cpd c k → M' c k = M c k) (ht : ∀ t : Nat, t < 20 → M' (102 + t) 0 = (t : Int)) : R M' w := h.cls (fun c k q => by
  rcases cpd_of q with g | ⟨g1, g2, g3⟩
  · exact hc c k g
  · obtain ⟨t, rfl⟩ : ∃ t, c = 102 + t := ⟨c - 102, by omega⟩
    rw [g3, ht t (by omega), h.tN (by omega)])
theorem MV.cpR {M M' : xM} {w : Nat → Int} (h : MV M w) (hI : Inv0 w) (hc : ∀ c k, cpd c k → M' c k = M c k) : MV M' w :=
  h.cpf (hc _ _ (Or.inr (Or.inr ⟨rfl, by omega, by omega⟩))) (fun a k ha hk => hc _ _ (Or.inl ⟨by omega, by omega, by
    have := cpl_acc a (by omega)
    rw [show 15 + 4 * a = 12 + 4 * a + 1 + 1 + 1 by omega]; omega⟩)) (fun e he => hc _ _ (Or.inl ⟨by omega, by omega, by
    have := cpl_evt e (by omega); omega⟩)) (hI.2.2.2.2.2.2.2.2.sec4 hI.1)
theorem m_keep_l : ∀ (k j n : Nat) (M : xM), j + k = 1550 → k < n → fX12_keep_13 400 n (j : Int) M = some (.inl (w32 (M 401 1547)), xcq M 401 402 j 1550)
  | _, _, 0, _, _, hn => absurd hn (Nat.not_lt_zero _)
  | 0, j, n + 1, M, hj, _ => by
    rw [fX12_keep_13, if_pos (by omega), show j = 1550 by omega, xcq_0, xr_400_0]; rfl
  | k + 1, j, n + 1, M, hj, hn => by
    rw [fX12_keep_13, if_neg (by omega), xix_t (by omega) (by omega), xix_t (by omega) (by omega), xr_400_0, xr_400_1, xput_b, Int.toNat_natCast, w32_s (by omega), m_keep_l k (j + 1) n _ (by omega) (by omega), xcq_h (by omega) (by omega), xup_c (by omega)]
theorem m_goBack_l : ∀ (k j n : Nat) (M : xM), j + k = 1550 → k < n → fX12_goBack_23 400 n (j : Int) M = some (.inl (w32 (xcq M 402 401 j 1550 401 1547)), xcq M 402 401 j 1550)
  | _, _, 0, _, _, hn => absurd hn (Nat.not_lt_zero _)
  | 0, j, n + 1, M, hj, _ => by
    rw [fX12_goBack_23, if_pos (by omega), show j = 1550 by omega, xcq_0, xr_400_0]; rfl
  | k + 1, j, n + 1, M, hj, hn => by
    rw [fX12_goBack_23, if_neg (by omega), xix_t (by omega) (by omega), xix_t (by omega) (by omega), xr_400_0, xr_400_1, xput_b, Int.toNat_natCast, w32_s (by omega), m_goBack_l k (j + 1) n _ (by omega) (by omega), xcq_h (by omega) (by omega)]
