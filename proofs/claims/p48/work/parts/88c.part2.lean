-- a trade settles in part
theorem SS.fs {M M' : xM} {x T : Nat → Int} (hS : SS M x T) (hR : R M' x) (h : ∀ c, (c < 12 ∨ 52 ≤ c ∨ c % 4 = 2 ∨ c % 4 = 3) → M' c = M c) : SS M' x T :=
  ⟨hR, hS.2.1.fr (by rw [h 3 (by omega)]) (fun a ha => h _ (by omega)) (fun e he => by rw [h _ (by omega)]) (fun _ _ _ => rfl) (fun _ _ => rfl) (fun _ _ _ => rfl) (fun _ _ _ => rfl), fun a ha => by rw [h 2 (by omega)]; exact hS.2.2 a ha⟩
theorem SS.tun {M : xM} {w T : Nat → Int} (h : SS M w T) {t : Nat} (ht : t < 20) {v : Int} : SS (xup M (102 + t) 6 v) (ups w (770 + t) v) T := ⟨h.1.tun_up ht, h.2.1.up (by omega) (by omega) (by omega) (by omega) (by omega) (by omega) (by omega), h.2.2.c (by omega)⟩
theorem SS.tam {M : xM} {w T : Nat → Int} (h : SS M w T) {t : Nat} (ht : t < 20) {v : Int} : SS (xup M (102 + t) 7 v) (ups w (790 + t) v) T := ⟨h.1.tam_up ht, h.2.1.up (by omega) (by omega) (by omega) (by omega) (by omega) (by omega) (by omega), h.2.2.c (by omega)⟩
/-- the amount of a part -/
def pA (x : Nat → Int) (t : Nat) (p : Int) : Int := Int.tdiv (w64 (x (790 + t) * p)) (x (770 + t))
theorem pA_b {x : Nat → Int} {t : Nat} {p : Int} (hu : 1 ≤ x (770 + t) ∧ x (770 + t) ≤ 59049000000) (ha : 0 ≤ x (790 + t) ∧ x (790 + t) ≤ 100000000) (hp : 0 ≤ p ∧ p ≤ x (770 + t)) : 0 ≤ pA x t p ∧ pA x t p ≤ x (790 + t) := by
  have m0 : 0 ≤ x (790 + t) * p := Int.mul_nonneg ha.1 hp.1
  have m1 : x (790 + t) * p ≤ 100000000 * 59049000000 := Int.mul_le_mul ha.2 (by omega) hp.1 (by omega)
  have m2 : x (790 + t) * p ≤ x (790 + t) * x (770 + t) := Int.mul_le_mul_of_nonneg_left hp.2 ha.1
  unfold pA
  rw [w64_i (by omega) (by omega), Int.tdiv_eq_ediv_of_nonneg m0]
  exact ⟨Int.ediv_nonneg m0 (by omega), Int.ediv_le_of_le_mul (by omega) m2⟩
def wPt (x : Nat → Int) (t : Nat) (p : Int) : Nat → Int := ups (ups (wA x (dT x t p (pA x t p))) (770 + t) (w64 (x (770 + t) - p))) (790 + t) (w64 (x (790 + t) - pA x t p))
def pFit (x : Nat → Int) (t : Nat) (p : Int) : Bool := sSnd (wA x (dT x t p (pA x t p))) (dl x t) && sSnd (wA x (dT x t p (pA x t p))) (rc x t)
theorem wA_back {x : Nat → Int} (hq : CQ x) (D : Nat → Int) {E : Nat → Int} (h : ∀ j, E j = - D j) : wA (wA x D) E = x := by
  rw [wA_wA]; exact wA_0 hq (fun j => by rw [h j]; omega)
theorem c_sPart {M : xM} {x T : Nat → Int} (hS : SS M x T) (hp : PG x) (hq : CQ x) {t : Nat} (ht : (t : Int) < x 1543) (f : TF x t) (p : Int) : ∃ M', fX1_settlePart 3 (102 + t) p (pA x t p) M = some (.inl 0, M') ∧ SS M' (wPt x t p) (sTb x T t) ∧ fz M M' := by
  obtain ⟨f0, -, -, d1, r1, p1, -⟩ := id f
  obtain ⟨M1, M2, a1, a2, a3, a4, a5⟩ := c_mvpay hS hp hq ht f p (pA x t p)
  obtain ⟨g1, -, -, e1, e2, -⟩ := f.wA (dT x t p (pA x t p))
  have s1 := a4.tun f0 (v := w64 (x (770 + t) - p))
  have s2 := s1.tam f0 (v := w64 (x (790 + t) - pA x t p))
  obtain ⟨h1, -, -, k1, k2, -⟩ := g1.fr (w' := wPt x t p) (fun j hj => by unfold wPt; rw [ups_ne (by omega), ups_ne (by omega)])
  obtain ⟨M3, c1, c2, c3⟩ := SS.tb (w := wPt x t p) s2 h1 (by unfold wPt; rw [ups_ne (by omega), ups_ne (by omega), wA_n (by omega)]; exact ht)
  rw [sTb_e (w := x) (by rw [k1, e1]) (by rw [k2, e2])] at c2
  refine ⟨M3, ?_, c2, ((a5.x (by omega)).x (by omega)).trans c3⟩
  unfold fX1_settlePart
  rw [hS.1.tD ht f, hS.1.tR ht f, hS.1.tP ht f, a1, xb_l, a2, xb_l, a4.1.tun f0, wA_n (by omega), xput_b, xup_k (by omega), a4.1.tam f0, wA_n (by omega), xput_b, c1, xb_l]; rfl
theorem c_partOf {M : xM} {x T : Nat → Int} (hS : SS M x T) (h0 : Inv0 x) (hq : CQ x) {t : Nat} (ht : (t : Int) < x 1543) {p : Int} (hp : 0 ≤ p ∧ p ≤ x (770 + t)) (hu : 1 ≤ x (770 + t)) : ∃ M', fX2_settlePartOf 395 (102 + t) p M = some (.inl 0, M') ∧ SS M' (if pFit x t p then wPt x t p else x) (if pFit x t p then sTb x T t else T) ∧ fz M M' := by
  have f := h0.tf ht
  have kq := KQ_le x
  have c1 := h0.1.2.1
  obtain ⟨f0, -, -, d1, r1, p1, -⟩ := id f
  obtain ⟨-, -, -, t4, -, t6, -⟩ := (h0.2.2.2.2.2.1 t f0).1 ht
  have pb := pA_b (x := x) (t := t) (p := p) ⟨hu, by omega⟩ t6 hp
  obtain ⟨M1, a1, a2, a3⟩ := c_shf hS.1 hq ht f p (pA x t p)
  obtain ⟨g1, -, -, e1, e2, e3⟩ := f.wA (dT x t p (pA x t p))
  have hl1 : (t : Int) < wA x (dT x t p (pA x t p)) 1543 := by rw [wA_n (by omega)]; exact ht
  obtain ⟨M2, b1, b2, b3⟩ := c_shf a2 (wA_q _ _) hl1 g1 (-p) (-pA x t p)
  rw [dT_wA f, wA_back hq _ (fun j => dT_n j)] at b2
  have hS2 : SS M2 x T := hS.fs b2 (fun c hc => by rw [b3 c hc, a3 c hc])
  have z2 : fz M M2 := fun c hc => by rw [b3 c (by omega), a3 c (by omega)]
  have fi1 := c_firm a2 d1 (by rw [wA_n (by omega)]; omega) (by rw [wA_n (by omega)]; omega) (hb_dT h0 f (a := pA x t p) ⟨hp.1, by omega⟩ d1)
  have fi2 := c_firm a2 r1 (by rw [wA_n (by omega)]; omega) (by rw [wA_n (by omega)]; omega) (hb_dT h0 f (a := pA x t p) ⟨hp.1, by omega⟩ r1)
  have back : ∀ s0, fX2_settlePartOf_67 395 (102 + t) p (pA x t p) s0 M1 = if s0 = 0 then xret 0 M2 else xb (fX1_settlePart 3 (102 + t) p (pA x t p) M2) (fun z3 M4 => (xret 0 M4)) := fun s0 => by
    unfold fX2_settlePartOf_67
    rw [xr_395_0, w64_i (by omega) (by omega), w64_i (by omega) (by omega), b1, xb_l]
  have back0 : fX2_settlePartOf_67 395 (102 + t) p (pA x t p) 0 M1 = xret 0 M2 := back 0
  have back1 : fX2_settlePartOf_67 395 (102 + t) p (pA x t p) 1 M1 = xb (fX1_settlePart 3 (102 + t) p (pA x t p) M2) (fun z3 M4 => (xret 0 M4)) := back 1
  have hd : fX2_settlePartOf 395 (102 + t) p M = if pFit x t p then xb (fX1_settlePart 3 (102 + t) p (pA x t p) M2) (fun z3 M4 => (xret 0 M4)) else xret 0 M2 := by
    unfold fX2_settlePartOf fX2_settlePartOf_66
    rw [hS.1.tun f0, if_pos (by omega), xnz_t (by omega), xlet_b, hS.1.tam f0, xr_395_0, show Int.tdiv (w64 (x (790 + t) * p)) (x (770 + t)) = pA x t p from rfl, a1, xb_l, a2.tD hl1 g1, e1, fi1, xb_l, if_b0, a2.tR hl1 g1, e2, fi2, xb_l, if_b0, back0, back1]
    unfold pFit
    cases sSnd (wA x (dT x t p (pA x t p))) (dl x t)
    · rfl
    · rw [if_t]
      cases sSnd (wA x (dT x t p (pA x t p))) (rc x t) <;> rfl
  rw [hd]
  cases pFit x t p
  · exact ⟨M2, rfl, hS2, z2⟩
  · obtain ⟨M3, c1, c2, c3⟩ := c_sPart hS2 h0.pg hq ht f p
    exact ⟨M3, by rw [if_t, c1, xb_l]; rfl, c2, z2.trans c3⟩
theorem m_partOf {X : xM} {x T : Nat → Int} {h : Int} (h0 : Inv0 x) (hq : CQ x) {t : Nat} (ht : (t : Int) < x 1543) (hf1 : x (830 + t) ≤ sFree x (dl x t) (pp x t)) (hf2 : sFree x (dl x t) (pp x t) < x (770 + t)) (hf0 : 0 ≤ sFree x (dl x t) (pp x t)) : fX12_part 400 (t : Int) (st X x T h) = some (.inl 0, st X (if pFit x t (sFree x (dl x t) (pp x t)) then wPt x t (sFree x (dl x t) (pp x t)) else x) (if pFit x t (sFree x (dl x t) (pp x t)) then sTb x T t else T) h) := by
  have f := h0.tf ht
  have kq := KQ_le x
  have c1 := h0.1.2.1
  obtain ⟨f0, -, -, d1, r1, p1, -⟩ := id f
  obtain ⟨-, -, -, t4, -, t6, -⟩ := (h0.2.2.2.2.2.1 t f0).1 ht
  have mf := m_free (M := st X x T h) d1 p1
  have md := m_dl (M := st X x T h) (t := t) f
  have mp := m_pp (M := st X x T h) (t := t) f
  rw [st_401] at mf md mp
  generalize hp : sFree x (dl x t) (pp x t) = p at *
  have pb := pA_b (x := x) (t := t) (p := p) ⟨by omega, by omega⟩ t6 ⟨hf0, by omega⟩
  obtain ⟨g1, -, -, e1, e2, e3⟩ := f.wA (dT x t p (pA x t p))
  have mm := m_mov (M := X) (T := T) (h := h) hq f p (pA x t p)
  have mb := m_mov (M := X) (T := T) (h := h) (wA_q x (dT x t p (pA x t p))) g1 (-p) (-pA x t p)
  rw [dT_wA f, wA_back hq _ (fun j => dT_n j)] at mb
  generalize hY : wA x (dT x t p (pA x t p)) = Y at *
  have y41 : Y 1541 = x 1541 := by rw [← hY]; exact wA_n (by omega)
  have yn : ∀ j, 140 ≤ j → Y j = x j := fun j hj => by rw [← hY]; exact wA_n (by omega)
  have md2 := m_dl (M := st X Y T h) (t := t) g1
  have mr2 := m_rc (M := st X Y T h) (t := t) g1
  have s1 := m_snd (M := st X Y T h) d1 (by rw [st_401]; omega) (by rw [st_401]; omega)
  have s2 := m_snd (M := st X Y T h) r1 (by rw [st_401]; omega) (by rw [st_401]; omega)
  rw [st_401] at md2 mr2 s1 s2
  rw [e1] at md2
  rw [e2] at mr2
  have back : fX12_part_140 400 (t : Int) p (pA x t p) (st X Y T h) = some (.inl 0, st X x T h) := by
    unfold fX12_part_140
    rw [w64_i (by omega) (by omega), w64_i (by omega) (by omega), mb, xb_l]; rfl
  have ew : ups (ups Y (770 + t) (w64 (x (770 + t) - p))) (790 + t) (w64 (x (790 + t) - pA x t p)) = wPt x t p := by unfold wPt; rw [hY]
  obtain ⟨h1, -, -, k1, k2, -⟩ := g1.fr (w' := wPt x t p) (fun j hj => by rw [← ew, ups_ne (by omega), ups_ne (by omega)])
  unfold fX12_part
  rw [md, xb_l, mp, xb_l, mf, xb_l]
  simp (disch := omega) only [w32_i, xix_t, xr_400_0, tn_add, Int.toNat_natCast, Int.reduceToNat, st_401]
  rw [if_neg (show ¬ x (770 + t) ≤ p by omega), if_pos (show x (830 + t) ≤ p by omega), xnz_t (by omega), xlet_b, show Int.tdiv (w64 (x (790 + t) * p)) (x (770 + t)) = pA x t p from rfl, mm, xb_l, md2, xb_l, s1, xb_l, if_b0, back, mr2, xb_l, s2, xb_l, if_b0, back]
  unfold pFit
  rw [hY]
  cases sSnd Y (dl x t)
  · rfl
  · rw [if_t, Bool.true_and]
    cases sSnd Y (rc x t)
    · rfl
    · rw [if_t, if_t, if_t]
      simp (disch := omega) only [st_401, xput_b, st_w, ups_ne, yn]
      rw [ew, m_tel h1, xb_l, sTb_e (w := x) (by rw [k1, e1]) (by rw [k2, e2])]; rfl
