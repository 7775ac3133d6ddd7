-- trades grow older; buy-ins
theorem wLk_up (t : Int) (g : Bool) {j : Nat} {v : Int} (hj : j < 890 ∨ 1545 ≤ j) : ∀ (k i l : Nat) (w : Nat → Int), i + k ≤ 10 → l ≤ i → wLk t g k i l (ups w j v) = ups (wLk t g k i l w) j v
  | 0, i, l, w, _, _ => by unfold wLk; exact ups_comm (by omega)
  | k + 1, i, l, w, hi, hl => by
    unfold wLk
    have e : gG (ups w j v) t g i = gG w t g i := by
      unfold gG sNm; rw [ups_ne (by omega), ups_ne (by omega)]
    rw [e, ups_ne (i := 890 + i) (by omega), ups_ne (i := 900 + i) (by omega), ups_ne (i := 910 + i) (by omega), ups_comm (i := j) (j := 890 + l) (by omega), ups_comm (i := j) (j := 900 + l) (by omega), ups_comm (i := j) (j := 910 + l) (by omega)]
    exact wLk_up t g hj k (i + 1) _ _ (by omega) (by split <;> omega)
theorem wOv_up {w : Nat → Int} (hC : IC w) {t : Nat} (ht : t < 20) (f : di w t < 40 ∧ ri w t < 40) {how : Int} {j : Nat} {v : Int} (hj : j < 570 ∨ 1545 ≤ j) : wOv (ups w j v) t how = ups (wOv w t how) j v := by
  have hk := hC.2.2.2.2.1
  unfold wOv wPs
  have e1 : di (ups w j v) t = di w t := by unfold di; rw [ups_ne (by omega)]
  have e2 : ri (ups w j v) t = ri w t := by unfold ri; rw [ups_ne (by omega)]
  rw [e1, e2, ups_ne (i := 1544) (by omega), ups_comm (i := j) (j := 870 + t) (by omega), ups_comm (i := j) (j := 570 + di w t) (by omega), ups_comm (i := j) (j := 570 + ri w t) (by omega)]
  exact wLk_up _ _ (by omega) _ 0 0 _ (by omega) (by omega)
theorem wOv_d {w : Nat → Int} (hC : IC w) {t : Nat} (f : TF w t) {how : Int} : TF (wOv w t how) t ∧ di (wOv w t how) t = di w t ∧ ri (wOv w t how) t = ri w t ∧ dl (wOv w t how) t = dl w t ∧ rc (wOv w t how) t = rc w t ∧ pp (wOv w t how) t = pp w t := f.fr (fun j hj => wOv_n hC (by omega) (by omega) (by omega) (by have := f.1; omega) f.2.1 f.2.2.1)
theorem wOv_ow {w : Nat → Int} (hC : IC w) {t : Nat} (f : TF w t) {how : Int} {d c : Nat} (hd : d < 10) (hc : c < 10) (x : Int) : wOw (wOv w t how) d c x = wOv (wOw w d c x) t how := by
  have ff : di w t < 40 ∧ ri w t < 40 := ⟨f.2.1, f.2.2.1⟩
  have n := fun (j : Nat) (hj : 80 ≤ j ∧ j < 90) => wOv_n (w := w) (how := how) hC (t := t) (j := j) (by omega) (by omega) (by omega) (by have := f.1; omega) ff.1 ff.2
  unfold wOw
  have e1 : di (ups w (80 + d) (w64 (w (80 + d) - x))) t = di w t := by unfold di; rw [ups_ne (by have := f.1; omega)]
  have e2 : ri (ups w (80 + d) (w64 (w (80 + d) - x))) t = ri w t := by unfold ri; rw [ups_ne (by have := f.1; omega)]
  rw [wOv_up (w := ups w (80 + d) (w64 (w (80 + d) - x))) (hC.fr (fun j _ _ => ups_ne (by omega))) f.1 (by rw [e1, e2]; exact ff) (by omega), wOv_up hC f.1 ff (by omega), n (80 + d) (by omega)]
  congr 2
  unfold ups
  split
  · rfl
  · rw [n (80 + c) (by omega)]
def wG1 (w : Nat → Int) (t : Nat) : Nat → Int := ups w (850 + t) (w (850 + t) + 1)
def gBi (w : Nat → Int) (t : Nat) : Bool := decide (w (850 + t) + 1 = 5) && sLa w t
def sGp (w : Nat → Int) (t : Nat) : Int := max 0 (w64 (w64 (w (770 + t) * w (184 + pp w t)) - w (790 + t)))
def wGr (w : Nat → Int) (t : Nat) : Nat → Int := if sDue w t then (if gBi w t then wOv (wOw (wG1 w t) (dl w t) (rc w t) (sGp w t)) t 2 else wG1 w t) else w
def tGr (w T : Nat → Int) (t : Nat) : Nat → Int := if sDue w t && gBi w t then sTb w T t else T
theorem wG1_ne {w : Nat → Int} {t j : Nat} (h : j ≠ 850 + t) : wG1 w t j = w j := ups_ne h
theorem wG1_d {w : Nat → Int} {t : Nat} (f : TF w t) : TF (wG1 w t) t ∧ di (wG1 w t) t = di w t ∧ ri (wG1 w t) t = ri w t ∧ dl (wG1 w t) t = dl w t ∧ rc (wG1 w t) t = rc w t ∧ pp (wG1 w t) t = pp w t := f.fr (fun j hj => wG1_ne (by omega))
theorem wG1_la {w : Nat → Int} {t : Nat} (f : TF w t) : sLa (wG1 w t) t = sLa w t := by
  obtain ⟨-, -, -, e3, -, e5⟩ := wG1_d f
  have := f.1
  have := f.2.2.2.1
  have := f.2.2.2.2.2.1
  unfold sLa sFree
  rw [e3, e5, wG1_ne (by omega), wG1_ne (by omega), wG1_ne (by omega)]
/-- the invariants, with the day that comes -/
def GI (w : Nat → Int) (t0 : Nat) : Prop := Inv0 (ups w 1547 (w 1547 + 1)) ∧ (0 ≤ w 1547 ∧ w 1547 < 2000) ∧ ∀ u : Nat, u < 20 → t0 ≤ u → (u : Int) < w 1543 → 0 ≤ w (850 + u) ∧ w (850 + u) ≤ w 1547
theorem GI.ic {w : Nat → Int} {t0 : Nat} (h : GI w t0) : IC w := by
  have c := h.1.1
  have d := h.2.1
  unfold IC at c ⊢
  simp (disch := omega) only [ups_ne, ups_same] at c
  exact ⟨c.1, c.2.1, c.2.2.1, c.2.2.2.1, c.2.2.2.2.1, c.2.2.2.2.2.1, c.2.2.2.2.2.2.1, by omega⟩
theorem GI.lt {w : Nat → Int} {t0 : Nat} (h : GI w t0) : LT w := ⟨h.ic, fun t ht => by
  have f := h.1.tf (t := t) (by rw [ups_ne (by omega)]; exact ht)
  exact (f.fr (w' := w) (fun j hj => (ups_ne (by omega)).symm)).1⟩
theorem Inv0.age {w : Nat → Int} (h : Inv0 w) {t : Nat} (ht : (t : Int) < w 1543) {v : Int} (hv : 0 ≤ v ∧ v ≤ w 1547) : Inv0 (ups w (850 + t) v) := by
  obtain ⟨hC, hA, hS, hH, hI, hT, hK, hL, hE⟩ := h
  have c3 := hC.2.2.2.1
  have c2 := hC.2.2.1
  refine ⟨hC.fr (fun j _ _ => ups_ne (by omega)), hA.fr hC (fun j _ => ups_ne (by omega)), hS.fr (fun j _ => ups_ne (by omega)), hH.fr (fun j _ => ups_ne (by omega)), hI.fr hC (fun j _ => ups_ne (by omega)), ?_, hK.fr (fun j _ => ups_ne (by omega)), hL.fr (fun j _ => ups_ne (by omega)), hE.fr (fun j _ => ups_ne (by omega))⟩
  intro u hu
  have k := hT u hu
  have hKQ : KQ (ups w (850 + t) v) = KQ w := KQ_eq (fun e he => ups_ne (by omega))
  have e1 : di (ups w (850 + t) v) u = di w u := by unfold di; rw [ups_ne (by omega)]
  have e2 : ri (ups w (850 + t) v) u = ri w u := by unfold ri; rw [ups_ne (by omega)]
  rw [hKQ, e1, e2]
  refine ⟨fun hl => ?_, fun hl => ?_⟩
  · rw [ups_ne (by omega)] at hl
    obtain ⟨k1, k2, k3, k4, k5, k6, k7, k8, k9, k10, k11, k12, k13, k14⟩ := k.1 hl
    have b1 : di w u < 40 := by unfold di; omega
    have b2 : ri w u < 40 := by unfold ri; omega
    have k9' : 0 ≤ ups w (850 + t) v (850 + u) ∧ ups w (850 + t) v (850 + u) ≤ ups w (850 + t) v 1547 := by
      rw [ups_ne (i := 1547) (by omega)]
      unfold ups; split
      · exact hv
      · exact k9
    generalize ups w (850 + t) v (850 + u) = z at k9'
    simp (disch := omega) only [ups_ne] at k9' ⊢
    exact ⟨k1, k2, k3, k4, k5, k6, k7, k8, k9', k10, k11, k12, k13, k14⟩
  · rw [ups_ne (by omega)] at hl
    rw [ups_ne (by omega), ups_ne (by omega)]; exact k.2 hl
theorem wOw_ne {w : Nat → Int} {d c j : Nat} (hd : d < 10) (hc : c < 10) {x : Int} (hj : j < 80 ∨ 90 ≤ j) : wOw w d c x j = w j := by
  unfold wOw; rw [ups_ne (by omega), ups_ne (by omega)]
theorem wGr_ne {w : Nat → Int} (hC : IC w) {t : Nat} (f : TF w t) {j : Nat} (hj : j < 80 ∨ (90 ≤ j ∧ j < 570) ∨ (610 ≤ j ∧ j < 850) ∨ (920 ≤ j ∧ j ≠ 1544)) : wGr w t j = w j := by
  have f0 := f.1
  obtain ⟨g0, g1, g2, g3, g4, g5⟩ := wG1_d f
  have hC1 : IC (wOw (wG1 w t) (dl w t) (rc w t) (sGp w t)) := hC.fr (fun j _ _ => by rw [wOw_ne f.2.2.2.1 f.2.2.2.2.1 (by omega), wG1_ne (by omega)])
  have e1 : di (wOw (wG1 w t) (dl w t) (rc w t) (sGp w t)) t = di w t := by
    unfold di; rw [wOw_ne f.2.2.2.1 f.2.2.2.2.1 (by omega), wG1_ne (by omega)]
  have e2 : ri (wOw (wG1 w t) (dl w t) (rc w t) (sGp w t)) t = ri w t := by
    unfold ri; rw [wOw_ne f.2.2.2.1 f.2.2.2.2.1 (by omega), wG1_ne (by omega)]
  unfold wGr
  split
  · split
    · rw [wOv_n hC1 (by omega) (by omega) (by omega) (by omega) (by rw [e1]; exact f.2.1) (by rw [e2]; exact f.2.2.1), wOw_ne f.2.2.2.1 f.2.2.2.2.1 (by omega), wG1_ne (by omega)]
    · exact wG1_ne (by omega)
  · rfl
def lq (w : Nat → Int) : Prop := ∀ a : Nat, a < 10 → -9223372036854775808 ≤ w (80 + a) ∧ w (80 + a) ≤ 9223372036854775807
theorem lq.ow {w : Nat → Int} (h : lq w) {d c : Nat} (x : Int) : lq (wOw w d c x) := fun a ha => by
  have k := h a ha
  have r1 := w64_r (w (80 + d) - x)
  have r2 := w64_r (ups w (80 + d) (w64 (w (80 + d) - x)) (80 + c) + x)
  unfold wOw
  generalize w64 (ups w (80 + d) (w64 (w (80 + d) - x)) (80 + c) + x) = y at *
  generalize w64 (w (80 + d) - x) = z at *
  unfold ups
  split
  · omega
  · split
    · omega
    · exact k
theorem lq.fr {w w' : Nat → Int} (h : lq w) (hw : ∀ j, 80 ≤ j → j < 90 → w' j = w j) : lq w' := fun a ha => by rw [hw _ (by omega) (by omega)]; exact h a ha
theorem lq.gr {w : Nat → Int} (h : lq w) (hC : IC w) {t : Nat} (f : TF w t) : lq (wGr w t) := by
  have f0 := f.1
  have hC1 : IC (wOw (wG1 w t) (dl w t) (rc w t) (sGp w t)) := hC.fr (fun j _ _ => by rw [wOw_ne f.2.2.2.1 f.2.2.2.2.1 (by omega), wG1_ne (by omega)])
  have e1 : di (wOw (wG1 w t) (dl w t) (rc w t) (sGp w t)) t = di w t := by
    unfold di; rw [wOw_ne f.2.2.2.1 f.2.2.2.2.1 (by omega), wG1_ne (by omega)]
  have e2 : ri (wOw (wG1 w t) (dl w t) (rc w t) (sGp w t)) t = ri w t := by
    unfold ri; rw [wOw_ne f.2.2.2.1 f.2.2.2.2.1 (by omega), wG1_ne (by omega)]
  have h1 : lq (wG1 w t) := h.fr (fun j _ _ => wG1_ne (by omega))
  unfold wGr
  split
  · split
    · exact (h1.ow _).fr (fun j _ _ => wOv_n hC1 (by omega) (by omega) (by omega) (by omega) (by rw [e1]; exact f.2.1) (by rw [e2]; exact f.2.2.1))
    · exact h1
  · exact h
theorem GI.step {w : Nat → Int} {t : Nat} (h : GI w t) (ht : (t : Int) < w 1543) : GI (wGr w t) (t + 1) := by
  have hC := h.ic
  have f := h.lt.2 t ht
  have f0 := f.1
  obtain ⟨hI, hd, ha⟩ := h
  have hat := ha t f0 (Nat.le_refl t) ht
  have ne := fun (j : Nat) hj => wGr_ne hC f (j := j) hj
  have e47 : wGr w t 1547 = w 1547 := ne 1547 (by omega)
  have e43 : wGr w t 1543 = w 1543 := ne 1543 (by omega)
  have i1 : Inv0 (ups (wG1 w t) 1547 (w 1547 + 1)) := by
    have := hI.age (t := t) (v := w (850 + t) + 1) (by rw [ups_ne (by omega)]; exact ht) (by rw [ups_same]; omega)
    rw [ups_comm (by omega)] at this; exact this
  have g1 := wG1_d f
  refine ⟨?_, by rw [e47]; exact hd, fun u hu hl hc => ?_⟩
  · rw [e47]
    unfold wGr
    cases q1 : sDue w t
    · exact hI
    · rw [if_t]
      cases q2 : gBi w t
      · exact i1
      · rw [if_t]
        have hC1 : IC (wG1 w t) := hC.fr (fun j _ _ => wG1_ne (by omega))
        rw [← wOv_ow hC1 g1.1 f.2.2.2.1 f.2.2.2.2.1]
        have q3 : w (870 + t) = 0 := of_decide_eq_true (and_tt q1).1
        have o := i1.over (t := t) (how := 2) (by rw [ups_ne (by omega), wG1_ne (by omega)]; exact ht) (by rw [ups_ne (by omega), wG1_ne (by omega)]; exact q3) (Or.inr rfl)
        rw [wOv_up hC1 f0 ⟨by rw [g1.2.1]; exact f.2.1, by rw [g1.2.2.1]; exact f.2.2.1⟩ (by omega)] at o
        refine o.pm (fun j hj => ?_)
        by_cases z : j = 1547
        · rw [z, ups_same, ups_same]
        · rw [ups_ne z, ups_ne z]
          refine wOw_ne f.2.2.2.1 f.2.2.2.2.1 ?_
          have := pm_t hj; omega
  · rw [e43] at hc
    have k := ha u hu (by omega) hc
    have e5 : wGr w t (850 + u) = w (850 + u) := by
      unfold wGr
      have hC1 : IC (wOw (wG1 w t) (dl w t) (rc w t) (sGp w t)) := hC.fr (fun j _ _ => by rw [wOw_ne f.2.2.2.1 f.2.2.2.2.1 (by omega), wG1_ne (by omega)])
      have e1 : di (wOw (wG1 w t) (dl w t) (rc w t) (sGp w t)) t = di w t := by
        unfold di; rw [wOw_ne f.2.2.2.1 f.2.2.2.2.1 (by omega), wG1_ne (by omega)]
      have e2 : ri (wOw (wG1 w t) (dl w t) (rc w t) (sGp w t)) t = ri w t := by
        unfold ri; rw [wOw_ne f.2.2.2.1 f.2.2.2.2.1 (by omega), wG1_ne (by omega)]
      split
      · split
        · rw [wOv_n hC1 (by omega) (by omega) (by omega) (by omega) (by rw [e1]; exact f.2.1) (by rw [e2]; exact f.2.2.1), wOw_ne f.2.2.2.1 f.2.2.2.2.1 (by omega), wG1_ne (by omega)]
        · exact wG1_ne (by omega)
      · rfl
    rw [e5, e47]; exact k
def lGr : Nat → Nat → (Nat → Int) → (Nat → Int) → (Nat → Int) × (Nat → Int)
  | 0, _, w, T => (w, T)
  | k + 1, t, w, T => lGr k (t + 1) (wGr w t) (tGr w T t)
theorem lGr_i : ∀ (k t : Nat) (w T : Nat → Int), (t : Int) + k = w 1543 → GI w t → lq w → GI (lGr k t w T).1 (t + k) ∧ lq (lGr k t w T).1 ∧ ∀ j, (j < 80 ∨ (90 ≤ j ∧ j < 570) ∨ (610 ≤ j ∧ j < 850) ∨ (920 ≤ j ∧ j ≠ 1544)) → (lGr k t w T).1 j = w j
  | 0, _, _, _, _, h, hq => ⟨h, hq, fun _ _ => rfl⟩
  | k + 1, t, w, T, ht, h, hq => by
    have f := h.lt.2 t (by omega)
    have ne := fun (j : Nat) hj => wGr_ne h.ic f (j := j) hj
    obtain ⟨i1, i2, i3⟩ := lGr_i k (t + 1) (wGr w t) (tGr w T t) (by rw [ne 1543 (by omega)]; omega) (h.step (by omega)) (hq.gr h.ic f)
    unfold lGr
    exact ⟨by rw [show t + (k + 1) = t + 1 + k by omega]; exact i1, i2, fun j hj => by rw [i3 j hj, ne j hj]⟩
theorem c_gr1 {M : xM} {w T : Nat → Int} (hS : SS M w T) {t : Nat} (h : GI w t) (ht : (t : Int) < w 1543) (rc' : Int → xM → xO) : ∃ M', (xb (fX1_isDue 3 (102 + t) M) (fun z3 M4 => (if z3 = 0 then (fX3_growOlder_67 rc' 399 (t : Int) M4) else xput (102 + t) 11 (w32 ((M4 (102 + t) 11) + 1)) M4 (fun M5 => (if (M5 (102 + t) 11) = 5 then xb (fX1_isLacking 3 (102 + t) M5) (fun z6 M7 => (if z6 = 0 then (fX3_growOlder_67 rc' 399 (t : Int) M7) else xb (fX3_buyIn 399 (102 + t) M7) (fun z8 M9 => (fX3_growOlder_67 rc' 399 (t : Int) M9)))) else (fX3_growOlder_67 rc' 399 (t : Int) M5)))))) = fX3_growOlder_67 rc' 399 (t : Int) M' ∧ SS M' (wGr w t) (tGr w T t) ∧ fz M M' := by
  have hC := h.ic
  have f := h.lt.2 t ht
  have f0 := f.1
  have hat := h.2.2 t f0 (Nat.le_refl t) ht
  have hd := h.2.1
  obtain ⟨hR, hV, hT⟩ := id hS
  unfold wGr tGr
  rw [c_due hR f ht, xb_l, if_b0]
  cases q1 : sDue w t
  · exact ⟨M, rfl, hS, fz.refl M⟩
  · rw [if_t, if_t, Bool.true_and, xput_b, hR.tage f0, w32_i (by omega) (by omega), xup_same]
    have hR1 : R (xup M (102 + t) 11 (w (850 + t) + 1)) (wG1 w t) := hR.tage_up f0
    have hS1 : SS (xup M (102 + t) 11 (w (850 + t) + 1)) (wG1 w t) T := ⟨hR1, hV.up (by omega) (by omega) (by omega) (by omega) (by omega) (by omega) (by omega), hT.c (by omega)⟩
    have g1 := wG1_d f
    have hl1 : (t : Int) < wG1 w t 1543 := by rw [wG1_ne (by omega)]; exact ht
    have hz1 : fz M (xup M (102 + t) 11 (w (850 + t) + 1)) := (fz.refl M).x (by omega)
    have hC1 : IC (wG1 w t) := hC.fr (fun j _ _ => wG1_ne (by omega))
    generalize xup M (102 + t) 11 (w (850 + t) + 1) = X at *
    unfold gBi
    by_cases q2 : w (850 + t) + 1 = 5
    · rw [if_pos q2, decide_eq_true q2, Bool.true_and, c_la hR1 g1.1 hl1, xb_l, if_b0, wG1_la f]
      cases q3 : sLa w t
      · exact ⟨X, rfl, hS1, hz1⟩
      · rw [if_t, if_t, if_t]
        obtain ⟨M1, o1, o2, o3⟩ := c_owe hS1 (d := dl w t) (c := rc w t) f.2.2.2.1 f.2.2.2.2.1 (sGp w t)
        have e := wOw_e (eqo.refl pm (wG1 w t)) (d := dl w t) (c := rc w t) f.2.2.2.1 f.2.2.2.2.1 (sGp w t)
        have fe := TF.pm e g1.1
        obtain ⟨M2, a1, a2, a3, a4⟩ := c_ct o2.1 o2.2.2 (hC1.pm e) fe.1 (by rw [e 1543 (pm_f (by omega))]; exact hl1)
        have eT : sTb (wOw (wG1 w t) (dl w t) (rc w t) (sGp w t)) T t = sTb w T t := by
          unfold sTb; rw [fe.2.2.2.1, fe.2.2.2.2.1, g1.2.2.2.1, g1.2.2.2.2.1]
        have hbuy : fX3_buyIn 399 (102 + t) X = some (.inl 0, M2) := by
          unfold fX3_buyIn
          rw [xr_399_0, hR1.tP hl1 g1.1, hR1.tun f0, c_wor hR1 g1.1.2.2.2.2.2.1, xb_l, hR1.tD hl1 g1.1, hR1.tR hl1 g1.1, hR1.tam f0, g1.2.2.2.1, g1.2.2.2.2.1, g1.2.2.2.2.2, wG1_ne (j := 770 + t) (by omega), wG1_ne (j := 790 + t) (by omega), wG1_ne (j := 184 + pp w t) (by have := f.2.2.2.2.2.1; omega)]
          rw [show max 0 (w64 (w64 (w (770 + t) * w (184 + pp w t)) - w (790 + t))) = sGp w t from rfl, o1, xb_l, a1, xb_l]; rfl
        rw [hbuy, xb_l]
        have ow := fun (j : Nat) (hj : j < 570 ∨ (610 ≤ j ∧ j < 870) ∨ (920 ≤ j ∧ j ≠ 1544)) => wOv_n (w := wOw (wG1 w t) (dl w t) (rc w t) (sGp w t)) (how := 2) (hC1.pm e) (t := t) (j := j) (by omega) (by omega) (by omega) (by omega) fe.1.2.1 fe.1.2.2.1
        refine ⟨M2, rfl, ⟨a2, o2.2.1.fr (a4 3 17 (by omega) (by omega) (by omega)) (fun x hx => by funext y; exact a4 _ y (by omega) (by omega) (by omega)) (fun x hx => a4 _ 9 (by omega) (by omega) (by omega)) (fun j _ _ => ow j (by omega)) (fun x _ => ow _ (by omega)) (fun x _ _ => ow _ (by omega)) (fun j _ _ => ow j (by omega)), by rw [← eT]; exact a3⟩, (hz1.trans o3).trans (fun c hc => by funext k; exact a4 c k (by omega) (by omega) (by omega))⟩
    · rw [if_neg q2, decide_eq_false q2, Bool.false_and, if_f, if_f]
      exact ⟨X, rfl, hS1, hz1⟩
theorem c_lGr : ∀ (k t n : Nat) (M : xM) (w T : Nat → Int), (t : Int) + k = w 1543 → k < n → SS M w T → GI w t → ∃ M', fX3_growOlder_2 399 n (t : Int) M = some (.inl 0, M') ∧ SS M' (lGr k t w T).1 (lGr k t w T).2 ∧ fz M M'
  | _, _, 0, _, _, _, _, hn, _, _ => absurd hn (Nat.not_lt_zero _)
  | 0, t, n + 1, M, w, T, ht, _, hS, hG => by
    refine ⟨M, ?_, hS, fz.refl M⟩
    rw [fX3_growOlder_2, xr_399_0, if_pos (by rw [hS.1.nT]; omega)]; rfl
  | k + 1, t, n + 1, M, w, T, ht, hn, hS, hG => by
    have hl : (t : Int) < w 1543 := by omega
    have f := hG.lt.2 t hl
    obtain ⟨M1, a1, a2, a3⟩ := c_gr1 hS hG hl (fX3_growOlder_2 399 n)
    obtain ⟨M2, b1, b2, b3⟩ := c_lGr k (t + 1) n M1 (wGr w t) (tGr w T t) (by rw [wGr_ne hG.ic f (by omega)]; omega) (by omega) a2 (hG.step hl)
    refine ⟨M2, ?_, b2, a3.trans b3⟩
    rw [fX3_growOlder_2, xr_399_0, if_neg (by rw [hS.1.nT]; omega), c_trd (by have := f.1; omega), xb_l, Int.toNat_natCast, a1]
    unfold fX3_growOlder_67
    rw [w32_s (by have := f.1; omega)]; exact b1
theorem m_wor {M : xM} {t : Nat} (f : TF (M 401) t) : fX12_worth 400 (t : Int) M = some (.inl (w64 (M 401 (770 + t) * M 401 (184 + pp (M 401) t))), M) := by
  have f0 := f.1
  have f5 := f.2.2.2.2.2.1
  unfold fX12_worth
  rw [m_pp f, xb_l]
  simp (disch := omega) only [w32_i, xix_t, xr_400_0, tn_add, Int.toNat_natCast, Int.reduceToNat]; rfl
theorem m_gr1 {M : xM} {w T : Nat → Int} {h : Int} {t : Nat} (hG : GI w t) (ht : (t : Int) < w 1543) (rc' : Int → xM → xO) (x : Int) : (xb (fX12_due 400 (t : Int) (st M w T h)) (fun z2 M3 => xix (w32 (850 + (t : Int))) 1550 ((if z2 = 0 then (fX12_endDay_307 rc' 400 x (t : Int) z2 0 (M3 401 (w32 (850 + (t : Int))).toNat) (w32 (850 + (t : Int))) 401 M3) else (fX12_endDay_307 rc' 400 x (t : Int) z2 1 (M3 401 (w32 (850 + (t : Int))).toNat) (w32 (850 + (t : Int))) 401 M3))))) = rc' ((t + 1 : Nat) : Int) (st M (wGr w t) (tGr w T t) h) := by
  have hC := hG.ic
  have f := hG.lt.2 t ht
  have f0 := f.1
  have hat := hG.2.2 t f0 (Nat.le_refl t) ht
  have hd := hG.2.1
  have g1 := wG1_d f
  have hC1 : IC (wG1 w t) := hC.fr (fun j _ _ => wG1_ne (by omega))
  unfold wGr tGr
  rw [m_due (M := st M w T h) f, xb_l, if_b0, st_401]
  unfold fX12_endDay_307 fX12_endDay_390 fX12_endDay_386
  rw [w32_s (by omega)]
  simp (disch := omega) only [w32_i, xix_t, xr_400_0, tn_add, Int.toNat_natCast, Int.reduceToNat, xput_b, st_w, st_401, w64_i]
  cases q1 : sDue w t
  · rw [if_f, if_f, Bool.false_and, if_f, show bi false = 0 from rfl, if_pos rfl, Int.add_zero, ups_self]
  · rw [if_t, if_t, Bool.true_and, show bi true = 1 from rfl, if_neg (by decide), ups_same]
    rw [show ups w (850 + t) (w (850 + t) + 1) = wG1 w t from rfl]
    unfold gBi
    by_cases q2 : w (850 + t) + 1 = 5
    · have s := m_sh (M := st M (wG1 w t) T h) g1.1
      rw [st_401, wG1_la f] at s
      rw [if_pos q2, decide_eq_true q2, Bool.true_and, s, xb_l, if_b0]
      cases q3 : sLa w t
      · rfl
      · rw [if_t, if_t, if_t, m_wor (M := st M (wG1 w t) T h) g1.1, xb_l, xlet_b, st_401, m_over hC1 g1.1 (Or.inr rfl), xb_l]
        have fo := wOv_d (how := 2) hC1 g1.1
        rw [m_dl (M := st M (wOv (wG1 w t) t 2) (sTb (wG1 w t) T t) h) fo.1, xb_l, m_rc (M := st M (wOv (wG1 w t) t 2) (sTb (wG1 w t) T t) h) fo.1, xb_l, st_401, fo.2.2.2.1, fo.2.2.2.2.1, g1.2.2.2.1, g1.2.2.2.2.1, g1.2.2.2.2.2, wG1_ne (j := 770 + t) (by omega), wG1_ne (j := 790 + t) (by omega), wG1_ne (j := 184 + pp w t) (by have := f.2.2.2.2.2.1; omega)]
        have eT : sTb (wG1 w t) T t = sTb w T t := by unfold sTb; rw [g1.2.2.2.1, g1.2.2.2.2.1]
        have key : ∀ y : Int, y = sGp w t → xb (fX12_owes 400 (dl w t : Int) (rc w t : Int) y (st M (wOv (wG1 w t) t 2) (sTb (wG1 w t) T t) h)) (fun z1 M2 => fX12_endDay_390 rc' 400 x (t : Int) M2) = rc' ((t + 1 : Nat) : Int) (st M (wOv (wOw (wG1 w t) (dl w t) (rc w t) (sGp w t)) t 2) (sTb w T t) h) := fun y hy => by
          unfold fX12_endDay_390
          rw [w32_s (by omega), m_owe f.2.2.2.1 f.2.2.2.2.1, xb_l, hy, wOv_ow hC1 g1.1 f.2.2.2.1 f.2.2.2.2.1, eT]
        by_cases z : w64 (w64 (w (770 + t) * w (184 + pp w t)) - w (790 + t)) ≤ 0
        · rw [if_pos z]; exact key 0 (by unfold sGp; omega)
        · rw [if_neg z]; exact key (w64 (w64 (w (770 + t) * w (184 + pp w t)) - w (790 + t))) (by unfold sGp; omega)
    · rw [if_neg q2, decide_eq_false q2, Bool.false_and, if_f, if_f]
theorem m_lGr (x : Int) : ∀ (k t n : Nat) (M : xM) (w T : Nat → Int) (h : Int), (t : Int) + k = w 1543 → k < n → GI w t → fX12_endDay_267 400 x n (t : Int) (st M w T h) = some (.inl x, st M (ups (lGr k t w T).1 1547 (w 1547 + 1)) (lGr k t w T).2 h)
  | _, _, 0, _, _, _, _, _, hn, _ => absurd hn (Nat.not_lt_zero _)
  | 0, t, n + 1, M, w, T, h, ht, _, hG => by
    have hd := hG.2.1
    rw [fX12_endDay_267, xr_400_0, st_401, if_pos (by omega), xput_b, st_w, w64_i (by omega) (by omega)]; rfl
  | k + 1, t, n + 1, M, w, T, h, ht, hn, hG => by
    have hl : (t : Int) < w 1543 := by omega
    have f := hG.lt.2 t hl
    have ih := m_lGr x k (t + 1) n M (wGr w t) (tGr w T t) h (by rw [wGr_ne hG.ic f (by omega)]; omega) (by omega) (hG.step hl)
    rw [fX12_endDay_267, xr_400_0, st_401, if_neg (by omega), m_gr1 hG hl, ih, wGr_ne hG.ic f (by omega)]; rfl
