-- the invariants behind an option
theorem Inv0.grant {w : Nat → Int} (h : Inv0 w) {a s : Nat} (ha : (a : Int) < w 1540) (hs : (s : Int) < w 1541) {g : Int} (h0 : 0 ≤ g) (h1 : w (192 + s) + g ≤ KQ w) : Inv0 (wO2 w a s g) := by
  obtain ⟨hC, hA, hS, hH, hI, hT, hK, hL, hE⟩ := h
  have c0 := hC.1
  have c1 := hC.2.1
  have ha4 : a < 10 := by omega
  have hs4 : s < 4 := by omega
  have kq := KQ_le w
  have le := hH.le ha4 hs4
  have sh := hH.2 s hs4
  have ne := fun (j : Nat) hj => wO2_ne (w := w) (g := g) ha4 hs4 (j := j) hj
  have s0 : 0 ≤ w (192 + s) := by
    have := sm_nn (f := fun a => w (100 + 4 * a + s)) 10 (fun b hb => by have := hH.1 b s hb hs4; show 0 ≤ w _; omega)
    omega
  have ev : w64 (w (100 + 4 * a + s) + g) = w (100 + 4 * a + s) + g := w64_i (by omega) (by omega)
  have ev2 : w64 (w (192 + s) + g) = w (192 + s) + g := w64_i (by omega) (by omega)
  have v1 : ∀ b t : Nat, b < 10 → t < 4 → wO2 w a s g (100 + 4 * b + t) = if b = a ∧ t = s then w (100 + 4 * a + s) + g else w (100 + 4 * b + t) := fun b t hb ht => by
    unfold wO2
    rw [ups_ne (by omega)]
    by_cases z : b = a ∧ t = s
    · rw [if_pos z, z.1, z.2, ups_same, ev]
    · rw [if_neg z, ups_ne (by omega)]
  have v2 : ∀ t : Nat, t < 4 → wO2 w a s g (192 + t) = if t = s then w (192 + s) + g else w (192 + t) := fun t ht => by
    unfold wO2
    by_cases z : t = s
    · rw [if_pos z, z, ups_same, ev2]
    · rw [if_neg z, ups_ne (by omega), ups_ne (by omega)]
  have hKQ : KQ (wO2 w a s g) = KQ w := KQ_eq (fun e he => ne _ (by omega))
  refine ⟨hC.fr (fun j _ _ => ne j (by omega)), hA.fr hC (fun j _ => ne j (by omega)), hS.fr (fun j _ => ne j (by omega)), ⟨fun b t hb ht => ?_, fun t ht => ?_⟩, hI.fr hC (fun j _ => ne j (by omega)), hT.fr hC (fun j _ => ne j (by omega)), hK.fr (fun j _ => ne j (by omega)), hL.fr (fun j _ => ne j (by omega)), hE.fr (fun j _ => ne j (by omega))⟩
  · have k := hH.1 b t hb ht
    rw [v1 b t hb ht, ne (140 + 4 * b + t) (by omega), ne 1540 (by omega), ne 1541 (by omega)]
    by_cases z : b = a ∧ t = s
    · rw [if_pos z]
      obtain ⟨rfl, rfl⟩ := z
      exact ⟨k.1, by omega, fun z => by omega, fun z => by omega⟩
    · rw [if_neg z]; exact k
  · have k := hH.2 t ht
    rw [hKQ, v2 t ht]
    by_cases z : t = s
    · rw [if_pos z]
      subst z
      rw [sm_up (f := fun b => w (100 + 4 * b + t)) (b := a) 10 ha4 (fun b hb hne => by
        show wO2 w a t g (100 + 4 * b + t) = _
        rw [v1 b t hb ht, if_neg (fun y => hne y.1)])]
      show _ + (wO2 w a t g (100 + 4 * a + t) - w (100 + 4 * a + t)) = _ ∧ _
      rw [v1 a t ha4 ht, if_pos ⟨rfl, rfl⟩]
      omega
    · rw [if_neg z, sm_eq (g := fun b => w (100 + 4 * b + t)) 10 (fun b hb => by
        show wO2 w a s g (100 + 4 * b + t) = _
        rw [v1 b t hb ht, if_neg (fun y => z y.2)])]
      exact k
def sr (f : Nat → Int) : Nat → Nat → Int
  | 0, _ => 0
  | k + 1, a => f a + sr f k (a + 1)
theorem sr_nn {f : Nat → Int} : ∀ k a, (∀ b, a ≤ b → b < a + k → 0 ≤ f b) → 0 ≤ sr f k a
  | 0, _, _ => Int.le_refl 0
  | k + 1, a, h => by
    have h1 := h a (by omega) (by omega)
    have h2 := sr_nn k (a + 1) (fun b x y => h b (by omega) (by omega))
    unfold sr; omega
theorem sr_c {f g : Nat → Int} : ∀ k a, (∀ b, a ≤ b → b < a + k → f b = g b) → sr f k a = sr g k a
  | 0, _, _ => rfl
  | k + 1, a, h => by
    unfold sr
    rw [h a (by omega) (by omega), sr_c k (a + 1) (fun b x y => h b (by omega) (by omega))]
/-- what an account may ask for -/
theorem sAk_r {w : Nat → Int} {e a : Nat} (h0 : 0 ≤ w (1240 + 10 * e + a)) (hb : 1 ≤ w (1080 + e)) : sAk w e a = w (1240 + 10 * e + a) / w (1080 + e) ∧ 0 ≤ sAk w e a ∧ w (1080 + e) * sAk w e a ≤ w (1240 + 10 * e + a) ∧ sAk w e a ≤ w (1240 + 10 * e + a) := by
  have e1 : sAk w e a = w (1240 + 10 * e + a) / w (1080 + e) := Int.tdiv_eq_ediv_of_nonneg h0
  rw [e1]
  refine ⟨rfl, Int.ediv_nonneg h0 (by omega), Int.mul_ediv_self_le (by omega), Int.ediv_le_self _ h0⟩
theorem lAk_x {w : Nat → Int} {e : Nat} (h : ∀ a : Nat, a < 10 → 0 ≤ sAk w e a ∧ sAk w e a ≤ 59049000000) : ∀ (k a : Nat) (x : Int), a + k ≤ 10 → 0 ≤ x → x + (k : Int) * 59049000000 ≤ 600000000000 → lAk w e k a x = x + sr (sAk w e) k a ∧ x + sr (sAk w e) k a ≤ x + (k : Int) * 59049000000 := by
  intro k
  induction k with
  | zero =>
    intro a x _ h0 h1
    refine ⟨(Int.add_zero x).symm, ?_⟩
    have e1 : sr (sAk w e) 0 a = 0 := rfl
    rw [e1]; omega
  | succ k ih =>
    intro a x hk h0 h1
    have ha := h a (by omega)
    obtain ⟨i1, i2⟩ := ih (a + 1) (x + sAk w e a) (by omega) (by omega) (by omega)
    have e1 : sr (sAk w e) (k + 1) a = sAk w e a + sr (sAk w e) k (a + 1) := rfl
    have e2 : lAk w e (k + 1) a x = lAk w e k (a + 1) (w64 (x + sAk w e a)) := rfl
    rw [e1, e2, w64_i (by omega) (by omega), i1]
    exact ⟨by omega, by omega⟩
/-- the facts of an option that is paid -/
def OF (w : Nat → Int) (e : Nat) (A : Int) : Prop := (∀ a : Nat, a < 10 → 0 ≤ sGo w e A a ∧ sGo w e A a ≤ 59049000000 ∧ 0 ≤ w (1140 + 10 * e + a) - w (1080 + e) * sGo w e A a ∧ w (1140 + 10 * e + a) - w (1080 + e) * sGo w e A a ≤ 59049000000 ∧ 0 ≤ w (1080 + e) * sGo w e A a ∧ w (1080 + e) * sGo w e A a ≤ 59049000000) ∧ (1 ≤ w (1070 + e) ∧ w (1070 + e) ≤ 1000)
theorem opt_facts {w : Nat → Int} (h : Inv0 w) {e : Nat} (he : e < 10) (hl : (e : Int) < w 1546) (hk : w (1050 + e) = 2) {nA : Nat} (hn : w 1540 = (nA : Int)) : OF w e (lAk w e nA 0 0) ∧ sr (sGo w e (lAk w e nA 0 0)) nA 0 ≤ 100000 := by
  have kE := h.2.2.2.2.2.2.2.2 e he
  obtain ⟨k1, k2, k3, k4, k5, k6⟩ := kE.1 hl
  obtain ⟨b1, b2, c1, c2⟩ := k5 hk
  have kq := KQ_le w
  have hc0 := h.1.1
  have hel := kE.2.2.2.2.2.1
  have hA1 : ∀ a : Nat, a < 10 → 0 ≤ sAk w e a ∧ sAk w e a ≤ 59049000000 ∧ w (1080 + e) * sAk w e a ≤ w (1240 + 10 * e + a) := fun a ha => by
    have k := hel a ha
    obtain ⟨-, r1, r2, r3⟩ := sAk_r (w := w) (e := e) (a := a) k.1 b1
    exact ⟨r1, by omega, r2⟩
  obtain ⟨x1, x2⟩ := lAk_x (w := w) (e := e) (fun a ha => ⟨(hA1 a ha).1, (hA1 a ha).2.1⟩) nA 0 0 (by omega) (by omega) (by omega)
  rw [Int.zero_add] at x1 x2
  generalize hAA : lAk w e nA 0 0 = A at *
  have hg : ∀ a : Nat, a < 10 → 0 ≤ sGo w e A a ∧ sGo w e A a ≤ sAk w e a ∧ (w (1090 + e) < A → A * sGo w e A a ≤ w (1090 + e) * sAk w e a) := fun a ha => by
    have k := hA1 a ha
    unfold sGo
    by_cases z : A ≤ w (1090 + e)
    · rw [if_pos z]; exact ⟨k.1, Int.le_refl _, fun y => by omega⟩
    · rw [if_neg z]
      have m0 : 0 ≤ sAk w e a * w (1090 + e) := Int.mul_nonneg k.1 c1
      have m1 : sAk w e a * w (1090 + e) ≤ 59049000000 * 100000 := Int.mul_le_mul k.2.1 c2 c1 (by omega)
      rw [w64_i (by omega) (by omega), Int.tdiv_eq_ediv_of_nonneg m0]
      have m2 : sAk w e a * w (1090 + e) ≤ sAk w e a * A := Int.mul_le_mul_of_nonneg_left (by omega) k.1
      refine ⟨Int.ediv_nonneg m0 (by omega), Int.ediv_le_of_le_mul (by omega) m2, fun _ => ?_⟩
      have := Int.mul_ediv_self_le (x := sAk w e a * w (1090 + e)) (k := A) (by omega)
      rw [Int.mul_comm (w (1090 + e))]; exact this
  refine ⟨⟨fun a ha => ?_, k3⟩, ?_⟩
  · have k := hA1 a ha
    obtain ⟨g0, g1, -⟩ := hg a ha
    have l := hel a ha
    have m3 : w (1080 + e) * sGo w e A a ≤ w (1080 + e) * sAk w e a := Int.mul_le_mul_of_nonneg_left g1 (by omega)
    have m4 : 0 ≤ w (1080 + e) * sGo w e A a := Int.mul_nonneg (by omega) g0
    exact ⟨g0, by omega, by omega, by omega, m4, by omega⟩
  · by_cases z : A ≤ w (1090 + e)
    · rw [sr_c (g := sAk w e) nA 0 (fun b _ _ => by unfold sGo; rw [if_pos z])]; omega
    · have key : ∀ k a, a + k ≤ 10 → A * sr (sGo w e A) k a ≤ w (1090 + e) * sr (sAk w e) k a := by
        intro k
        induction k with
        | zero => intro a _; show A * 0 ≤ w (1090 + e) * 0; omega
        | succ k ih =>
          intro a hak
          have i := ih (a + 1) (by omega)
          have j := (hg a (by omega)).2.2 (by omega)
          show A * (sGo w e A a + sr (sGo w e A) k (a + 1)) ≤ w (1090 + e) * (sAk w e a + sr (sAk w e) k (a + 1))
          rw [Int.mul_add, Int.mul_add]; omega
      have k := key nA 0 (by omega)
      rw [← x1, Int.mul_comm (w (1090 + e)) A] at k
      have := Int.le_of_mul_le_mul_left k (by omega)
      omega
theorem lOp_i {e s : Nat} (he : e < 10) (hs : s < 4) (A : Int) : ∀ (k a : Nat) (w : Nat → Int) (N : Int), (a : Int) + k = w 1540 → (s : Int) < w 1541 → Inv0 (ups w (1130 + e) 1) → IM N w → lq w → 0 ≤ N → N + k * 60000000000000 ≤ 4000000000000000000 → OF w e A → w (192 + s) + sr (sGo w e A) k a ≤ KQ (ups w (1130 + e) 1) → Inv0 (ups (lOp e s A k a w) (1130 + e) 1) ∧ IM (N + k * 60000000000000) (lOp e s A k a w) ∧ lq (lOp e s A k a w) ∧ ∀ j, (j < 30 ∨ (40 ≤ j ∧ j < 100) ∨ (140 ≤ j ∧ j < 192) ∨ 196 ≤ j) → lOp e s A k a w j = w j
  | 0, a, w, N, _, _, hI, hM, hq, _, _, _, _ => ⟨hI, by rw [show N + ((0 : Nat) : Int) * 60000000000000 = N by omega]; exact hM, hq, fun _ _ => rfl⟩
  | k + 1, a, w, N, hak, hsl, hI, hM, hq, h0, hN, hO, hsum => by
    have c0 := hI.1.1
    rw [ups_ne (by omega)] at c0
    have ha4 : a < 10 := by omega
    have o := hO.1 a ha4
    have o7 := hO.2
    have ne := fun (j : Nat) hj => wOq_ne (w := w) (e := e) (s := s) (a := a) (A := A) ha4 hs (j := j) hj
    have hsr : 0 ≤ sr (sGo w e A) k (a + 1) := sr_nn k (a + 1) (fun b x y => (hO.1 b (by omega)).1)
    unfold sr at hsum
    have hPw : PF w := hI.pf.fr (fun j hj => (ups_ne (by omega)).symm)
    have hP2 : PF (wO2 w a s (sGo w e A a)) := hPw.fr (fun j hj => wO2_ne ha4 hs (by omega))
    have hc : wO2 (ups w (1130 + e) 1) a s (sGo w e A a) = ups (wO2 w a s (sGo w e A a)) (1130 + e) 1 := by
      unfold wO2
      rw [ups_ne (i := 100 + 4 * a + s) (by omega), ups_ne (i := 192 + s) (by omega), ups_comm (i := 1130 + e) (j := 100 + 4 * a + s) (by omega), ups_comm (i := 1130 + e) (j := 192 + s) (by omega)]
    have i2 := hI.grant (a := a) (s := s) (g := sGo w e A a) (by rw [ups_ne (by omega)]; omega) (by rw [ups_ne (by omega)]; exact hsl) o.1 (by rw [ups_ne (i := 192 + s) (by omega)]; omega)
    rw [hc] at i2
    have i3 : Inv0 (ups (wOq w e s A a) (1130 + e) 1) := i2.pm (fun j hj => by
      unfold ups
      split
      · rfl
      · exact wCr_ne (by have := pm_t hj; omega))
    have m0 : 0 ≤ (w (1140 + 10 * e + a) - w (1080 + e) * sGo w e A a) * w (1070 + e) := Int.mul_nonneg o.2.2.1 (by omega)
    have m1 : (w (1140 + 10 * e + a) - w (1080 + e) * sGo w e A a) * w (1070 + e) ≤ 59049000000 * 1000 := Int.mul_le_mul o.2.2.2.1 hO.2.2 (by omega) (by omega)
    have e2 : w64 (w64 (w (1140 + 10 * e + a) - w64 (w (1080 + e) * sGo w e A a)) * w (1070 + e)) = (w (1140 + 10 * e + a) - w (1080 + e) * sGo w e A a) * w (1070 + e) := by
      rw [w64_i (x := w (1080 + e) * sGo w e A a) (by omega) (by omega), w64_i (x := w (1140 + 10 * e + a) - w (1080 + e) * sGo w e A a) (by omega) (by omega), w64_i (by omega) (by omega)]
    have im : IM (N + 60000000000000) (wOq w e s A a) := wCr_im (hM.fr (w' := wO2 w a s (sGo w e A a)) (fun j _ _ => wO2_ne ha4 hs (by omega))) h0 (by omega) hP2 ha4 hs (by rw [e2]; exact m0) (by rw [e2]; omega)
    have lq1 : lq (wOq w e s A a) := hq.fr (fun j _ _ => ne j (by omega))
    have gE : ∀ b, b < 10 → sGo (wOq w e s A a) e A b = sGo w e A b := fun b hb => sGo_e (ne _ (by omega)) (ne _ (by omega)) (ne _ (by omega))
    have hO2 : OF (wOq w e s A a) e A := ⟨fun b hb => by rw [gE b hb, ne _ (by omega), ne _ (by omega)]; exact hO.1 b hb, by rw [ne _ (by omega)]; exact hO.2⟩
    have kqe : KQ (ups (wOq w e s A a) (1130 + e) 1) = KQ (ups w (1130 + e) 1) := KQ_eq (fun x hx => by
      unfold ups; split
      · rfl
      · exact ne _ (by omega))
    have v92 : wOq w e s A a (192 + s) = w (192 + s) + sGo w e A a := by
      unfold wOq
      rw [wCr_ne (by omega)]
      unfold wO2
      rw [ups_same]
      have sh := hI.2.2.2.1.2 s hs
      rw [ups_ne (by omega)] at sh
      have := sm_nn (f := fun a => ups w (1130 + e) 1 (100 + 4 * a + s)) 10 (fun b hb => by have := hI.2.2.2.1.1 b s hb hs; show 0 ≤ ups w _ _ _; omega)
      have kq := KQ_le (ups w (1130 + e) 1)
      rw [w64_i (by omega) (by omega)]
    obtain ⟨r1, r2, r3, r4⟩ := lOp_i he hs A k (a + 1) (wOq w e s A a) (N + 60000000000000) (by rw [ne 1540 (by omega)]; omega) (by rw [ne 1541 (by omega)]; exact hsl) i3 im lq1 (by omega) (by omega) hO2 (by rw [kqe, v92, sr_c (g := sGo w e A) k (a + 1) (fun b x y => gE b (by omega))]; omega)
    unfold lOp
    exact ⟨r1, by rw [show N + ((k + 1 : Nat) : Int) * 60000000000000 = N + 60000000000000 + (k : Int) * 60000000000000 by omega]; exact r2, r3, fun j hj => by rw [r4 j hj, ne j hj]⟩
/-- what is paid is noted -/
theorem Inv0.done {w : Nat → Int} (h : Inv0 w) {e : Nat} (he : e < 10) (hl : (e : Int) < w 1546) (hz : w (1130 + e) = 0) : Inv0 (ups w (1130 + e) 1) ∧ KQ (ups w (1130 + e) 1) = 3 * KQ w := by
  have hKQ : KQ (ups w (1130 + e) 1) = 3 * KQ w := by
    have := kq_up hz 10
    rw [if_pos he] at this; exact this
  have kq := KQ_ge w
  obtain ⟨hC, hA, hS, hH, hI, hT, hK, hL, hE⟩ := h
  have ne : ∀ j, j ≠ 1130 + e → ups w (1130 + e) 1 j = w j := fun j hj => ups_ne hj
  have c2 := hC.2.2.1
  refine ⟨⟨hC.fr (fun j _ _ => ne j (by omega)), hA.fr hC (fun j _ => ne j (by omega)), hS.fr (fun j _ => ne j (by omega)), ⟨fun a s ha hs => ?_, fun s hs => ?_⟩, hI.fr hC (fun j _ => ne j (by omega)), fun t ht => ?_, hK.fr (fun j _ => ne j (by omega)), fun l hl2 hc => ?_, fun x hx => ?_⟩, hKQ⟩
  · rw [ne _ (by omega), ne _ (by omega), ne 1540 (by omega), ne 1541 (by omega)]; exact hH.1 a s ha hs
  · have k := hH.2 s hs
    rw [hKQ, ne _ (by omega), sm_eq (g := fun a => w (100 + 4 * a + s)) 10 (fun a ha => ne _ (by omega))]
    exact ⟨k.1, by omega⟩
  · have k := hT t ht
    have d1 : di (ups w (1130 + e) 1) t = di w t := by unfold di; rw [ne _ (by omega)]
    have d2 : ri (ups w (1130 + e) 1) t = ri w t := by unfold ri; rw [ne _ (by omega)]
    refine ⟨fun hlt => ?_, fun hlt => ?_⟩
    · rw [ne _ (by omega)] at hlt
      obtain ⟨k1, k2, k3, k4, k5, k6, k7, k8, k9, k10, k11, k12, k13, k14⟩ := k.1 hlt
      have b1 : di w t < 40 := by unfold di; omega
      have b2 : ri w t < 40 := by unfold ri; omega
      rw [hKQ, d1, d2]
      simp (disch := omega) only [ne]
      exact ⟨k1, k2, k3, ⟨k4.1, by omega⟩, k5, k6, k7, ⟨k8.1, by omega⟩, k9, k10, k11, k12, k13, k14⟩
    · rw [ne _ (by omega)] at hlt
      rw [ne _ (by omega), ne _ (by omega)]; exact k.2 hlt
  · rw [ne _ (by omega)] at hc
    obtain ⟨k1, k2, k3, k4, k5⟩ := hL l hl2 hc
    rw [hKQ]
    simp (disch := omega) only [ne]
    exact ⟨k1, k2, k3, ⟨k4.1, by omega⟩, k5⟩
  · obtain ⟨k1, k2, k3, k4, k5, k6, k7⟩ := hE x hx
    rw [hKQ, ne 1546 (by omega), ne 1541 (by omega), ne (1050 + x) (by omega), ne (1060 + x) (by omega), ne (1070 + x) (by omega), ne (1080 + x) (by omega), ne (1090 + x) (by omega), ne (1100 + x) (by omega), ne (1110 + x) (by omega), ne (1120 + x) (by omega)]
    refine ⟨k1, fun q => ?_, k3, ?_, fun q => ⟨fun a ha => ?_, fun t ht => ?_⟩, fun a ha => ?_, fun t ht => ?_⟩
    · rw [ne _ (by omega)]; exact k2 q
    · unfold ups; split
      · exact Or.inr rfl
      · exact k4
    · rw [ne _ (by omega), ne _ (by omega)]; exact (k5 q).1 a ha
    · rw [ne _ (by omega)]; exact (k5 q).2 t ht
    · have := k6 a ha
      rw [ne _ (by omega), ne _ (by omega)]; omega
    · have := k7 t ht
      rw [ne _ (by omega)]; exact ⟨this.1, by omega, this.2.2⟩
