-- one by one the class settles, the model moves all and ends each
theorem c_mvpay {M : xM} {x T : Nat → Int} (hS : SS M x T) (hp : PG x) (hq : CQ x) {t : Nat} (ht : (t : Int) < x 1543) (f : TF x t) (u a : Int) : ∃ M1 M2, fX1_moveUnits 3 (dl x t : Int) (rc x t : Int) (pp x t : Int) u M = some (.inl 0, M1) ∧ fX1_payFor 3 (102 + t) a M1 = some (.inl 0, M2) ∧ SS M1 (wU x (dl x t) (rc x t) (pp x t) u) T ∧ SS M2 (wA x (dT x t u a)) T ∧ fz M M2 := by
  obtain ⟨f0, -, -, d1, r1, p1, -, -, -, -, -, ne⟩ := id f
  obtain ⟨M1, a1, a2, a3⟩ := c_mvU hS hp d1 r1 p1 u
  have n : ∀ j, (j < 100 ∨ 140 ≤ j) → wU x (dl x t) (rc x t) (pp x t) u j = x j := fun j hj => wU_ne d1 r1 p1 hj
  obtain ⟨g1, -, -, e1, e2, e3⟩ := f.fr (w' := wU x (dl x t) (rc x t) (pp x t) u) (fun j _ => n j (by omega))
  have hl : (t : Int) < wU x (dl x t) (rc x t) (pp x t) u 1543 := by rw [n _ (by omega)]; exact ht
  have s3 := a2.cash r1 (v := w64 (x (30 + rc x t) - a))
  have s4 := s3.cash d1 (v := w64 (x (30 + dl x t) + a))
  have ee : ups (ups (wU x (dl x t) (rc x t) (pp x t) u) (30 + rc x t) (w64 (x (30 + rc x t) - a))) (30 + dl x t) (w64 (x (30 + dl x t) + a)) = wA x (dT x t u a) := by
    rw [ups_cm (i := 30 + rc x t) (j := 30 + dl x t) (by omega), wA_ups hq f u a]
    unfold wU
    rw [ups_ne (i := 100 + 4 * rc x t + pp x t) (by omega)]
  rw [ee] at s4
  refine ⟨M1, _, a1, ?_, a2, s4, (a3.x (by omega)).x (by omega)⟩
  unfold fX1_payFor
  rw [a2.1.tR hl g1, e2, c_acc (by omega), xb_l, Int.toNat_natCast, a2.1.cash r1, n _ (by omega), xput_b, xup_c (a := 102 + t) (by omega), a2.1.tD hl g1, e1, c_acc (by omega), xb_l, Int.toNat_natCast, xup_c (a := 12 + 4 * dl x t) (by omega), a2.1.cash d1, n _ (by omega), xput_b]; rfl
theorem SS.ps {M : xM} {w T : Nat → Int} (hS : SS M w T) {t : Nat} (f : TF w t) (s : Int) : fX1_putStatus 3 (102 + t) s M = some (.inl 0, mPs M w t s) ∧ SS (mPs M w t s) (wPs w t s) T ∧ fz M (mPs M w t s) := by
  obtain ⟨a, b⟩ := c_ps hS.1 f s
  have f0 := f.1
  have f1 := f.2.1
  have f2 := f.2.2.1
  refine ⟨a, ⟨b, ?_, ((hS.2.2.c (by omega)).c (by omega)).c (by omega)⟩, (((fz.refl M).x (by omega)).x (by omega)).x (by omega)⟩
  exact ((hS.2.1.up (by omega) (by omega) (by omega) (by omega) (by omega) (by omega) (by omega)).up (by omega) (by omega) (by omega) (by omega) (by omega) (by omega) (by omega)).up (by omega) (by omega) (by omega) (by omega) (by omega) (by omega) (by omega)
theorem SS.tb {M : xM} {w T : Nat → Int} (hS : SS M w T) {t : Nat} (f : TF w t) (ht : (t : Int) < w 1543) : ∃ M', fX1_tellBoth 3 (102 + t) M = some (.inl 0, M') ∧ SS M' w (sTb w T t) ∧ fz M M' := by
  obtain ⟨M', a, b, c⟩ := c_tb hS.1 hS.2.2 f ht
  exact ⟨M', a, ⟨hS.1.fr (fun x _ _ => c x (by omega)), hS.2.1.frM (fun x _ _ => c x (by omega)), b⟩, fun x hx => c x (by omega)⟩
theorem wPs_n {w : Nat → Int} {t : Nat} {s : Int} (f : TF w t) {j : Nat} (hj : j < 570 ∨ (610 ≤ j ∧ j < 870) ∨ 890 ≤ j) : wPs w t s j = w j := by
  have := f.1
  have := f.2.1
  have := f.2.2.1
  unfold wPs; rw [ups_ne (by omega), ups_ne (by omega), ups_ne (by omega)]
theorem TF.wPs' {w : Nat → Int} {t v : Nat} {s : Int} (h : TF w v) (f : TF w t) : TF (wPs w t s) v ∧ di (wPs w t s) v = di w v ∧ ri (wPs w t s) v = ri w v ∧ dl (wPs w t s) v = dl w v ∧ rc (wPs w t s) v = rc w v ∧ pp (wPs w t s) v = pp w v := h.fr (fun j hj => wPs_n f (by omega))
theorem sTb_e {w w' T : Nat → Int} {t : Nat} (h1 : dl w' t = dl w t) (h2 : rc w' t = rc w t) : sTb w' T t = sTb w T t := by unfold sTb; rw [h1, h2]
theorem c_whole {M : xM} {x T : Nat → Int} (hS : SS M x T) (hp : PG x) (hq : CQ x) {t : Nat} (ht : (t : Int) < x 1543) (f : TF x t) : ∃ M', fX1_settleWhole 3 (102 + t) M = some (.inl 0, M') ∧ SS M' (wPs (wA x (dT x t (x (770 + t)) (x (790 + t)))) t 2) (sTb x T t) ∧ fz M M' := by
  obtain ⟨f0, -, -, d1, r1, p1, -⟩ := id f
  obtain ⟨M1, M2, a1, a2, a3, a4, a5⟩ := c_mvpay hS hp hq ht f (x (770 + t)) (x (790 + t))
  obtain ⟨g1, -, -, e1, e2, -⟩ := f.wA (dT x t (x (770 + t)) (x (790 + t)))
  obtain ⟨b1, b2, b3⟩ := a4.ps g1 2
  obtain ⟨h1, -, -, k1, k2, -⟩ := g1.wPs' (s := 2) g1
  obtain ⟨M3, c1, c2, c3⟩ := b2.tb h1 (by rw [wPs_n g1 (by omega), wA_n (by omega)]; exact ht)
  rw [sTb_e (w := x) (by rw [k1, e1]) (by rw [k2, e2])] at c2
  refine ⟨M3, ?_, c2, (a5.trans b3).trans c3⟩
  unfold fX1_settleWhole
  rw [hS.1.tD ht f, hS.1.tR ht f, hS.1.tP ht f, hS.1.tun f0, a1, xb_l, a3.1.tam f0, wU_ne d1 r1 p1 (by omega), a2, xb_l, b1, xb_l, c1, xb_l]; rfl
/-- what the class has when the model has x: the first i of the set have moved -/
def mix (w : Nat → Int) (c : Nat → Nat) (f : Nat → Bool) (x : Nat → Int) (i : Nat) : Nat → Int := fun j => if cel j then wA w (DA w c f i) j else x j
theorem mix_c {w x : Nat → Int} {c : Nat → Nat} {f : Nat → Bool} {i j : Nat} (h : cel j = true) : mix w c f x i j = wA w (DA w c f i) j := by unfold mix; rw [h, if_t]
theorem mix_n {w x : Nat → Int} {c : Nat → Nat} {f : Nat → Bool} {i j : Nat} (h : cel j = false) : mix w c f x i j = x j := by unfold mix; rw [h, if_f]
theorem wPs_c {x y : Nat → Int} {t : Nat} {s : Int} (h1 : di y t = di x t) (h2 : ri y t = ri x t) {j : Nat} (h : y j = x j) : wPs y t s j = wPs x t s j := by
  unfold wPs; rw [h1, h2]; unfold ups
  split
  · rfl
  · split
    · rfl
    · split
      · rfl
      · exact h
theorem mix_s {w x : Nat → Int} {c : Nat → Nat} {f : Nat → Bool} {i : Nat} (hf : f i = true) (ft : TF w (c i)) (fx : TF x (c i)) (fm : TF (mix w c f x i) (c i)) (e1 : di (mix w c f x i) (c i) = di x (c i)) (e2 : ri (mix w c f x i) (c i) = ri x (c i)) (d1 : dl (mix w c f x i) (c i) = dl w (c i)) (d2 : rc (mix w c f x i) (c i) = rc w (c i)) (d3 : pp (mix w c f x i) (c i) = pp w (c i)) : wPs (wA (mix w c f x i) (dT (mix w c f x i) (c i) (w (770 + c i)) (w (790 + c i)))) (c i) 2 = mix w c f (wPs x (c i) 2) (i + 1) := by
  obtain ⟨g, k1, k2, -⟩ := fm.wA (dT (mix w c f x i) (c i) (w (770 + c i)) (w (790 + c i)))
  have t20 := ft.1
  have x1 := fx.2.1
  have x2 := fx.2.2.1
  funext j
  cases q : cel j
  · rw [mix_n q]
    refine wPs_c (by rw [k1, e1]) (by rw [k2, e2]) ?_
    unfold wA; rw [q, if_f, mix_n q]
  · rw [mix_c q, wPs_n g (by
      unfold cel at q
      simp only [Bool.or_eq_true, Bool.and_eq_true, decide_eq_true_eq] at q; omega), wA_c q, mix_c q, wA_c q, wA_c q, w64_add]
    have : dT (mix w c f x i) (c i) (w (770 + c i)) (w (790 + c i)) j = dT w (c i) (w (770 + c i)) (w (790 + c i)) j := by unfold dT; rw [d1, d2, d3]
    have e : DA w c f (i + 1) j = DA w c f i j + (if f i then dT w (c i) (w (770 + c i)) (w (790 + c i)) j else 0) := rfl
    rw [this, e, hf, if_t, Int.add_assoc]
/-- how far the ends of the set's trades have come -/
def EX (w : Nat → Int) (c : Nat → Nat) (q : Nat) (f : Nat → Bool) (x : Nat → Int) (i : Nat) : Prop := Inv0 x ∧ (∀ j, (j < 570 ∨ (610 ≤ j ∧ j < 870) ∨ 890 ≤ j) → x j = wA w (DA w c f q) j) ∧ ∀ k, i ≤ k → k < q → x (870 + c k) = 0
theorem EX.far {w : Nat → Int} {c : Nat → Nat} {q : Nat} {f : Nat → Bool} {x : Nat → Int} {i : Nat} (h : EX w c q f x i) {j : Nat} (hj : j < 30 ∨ (50 ≤ j ∧ j < 100) ∨ (140 ≤ j ∧ j < 570) ∨ (610 ≤ j ∧ j < 870) ∨ 890 ≤ j) : x j = w j := by
  rw [h.2.1 j (by omega), wA_n (by omega)]
theorem EX.s {w : Nat → Int} {c : Nat → Nat} {q : Nat} {f : Nat → Bool} {x : Nat → Int} {i : Nat} (h : EX w c q f x i) (hc : CD w c q) (hi2 : i < q) : EX w c q f (wPs x (c i) 2) (i + 1) ∧ wOv x (c i) 1 = wPs x (c i) 2 := by
  have hl : (c i : Int) < x 1543 := by rw [h.far (by omega)]; exact (hc.2.1 i hi2).1
  have fx := h.1.tf hl
  have c4 := h.1.1.2.2.2.2.1
  have e : wOv x (c i) 1 = wPs x (c i) 2 := by
    unfold wOv
    exact wLk_id _ _ 0 _ (by rw [wPs_n fx (by omega)]; omega)
  refine ⟨⟨?_, fun j hj => by rw [wPs_n fx hj]; exact h.2.1 j hj, fun k k1 k2 => ?_⟩, e⟩
  · rw [← e]; exact h.1.over hl (h.2.2 i (Nat.le_refl i) hi2) (Or.inl rfl)
  · have : c k ≠ c i := fun z => by have := hc.2.2 k i k2 hi2 z; omega
    have f1 := fx.2.1
    have f2 := fx.2.2.1
    unfold wPs
    rw [ups_ne (by omega), ups_ne (by omega), ups_ne (by omega)]; exact h.2.2 k (by omega) k2
theorem EX.k {w : Nat → Int} {c : Nat → Nat} {q : Nat} {f : Nat → Bool} {x : Nat → Int} {i : Nat} (h : EX w c q f x i) : EX w c q f x (i + 1) := ⟨h.1, h.2.1, fun k k1 k2 => h.2.2 k (by omega) k2⟩
/-- the cycle's frame in the class -/
def CB (w : Nat → Int) (c : Nat → Nat) (q : Nat) (M : xM) (r : Nat → Bool) : Prop := BX w c q M r ∧ M 395 4 = (q : Int) ∧ ∀ k, k < q → M 396 k = (c k : Int)
theorem CB.z {w : Nat → Int} {c : Nat → Nat} {q : Nat} {M M' : xM} {r : Nat → Bool} (h : CB w c q M r) (z : fz M M') : CB w c q M' r := by
  unfold CB BX
  rw [z 395 (by omega), z 396 (by omega)]; exact h
theorem setls {w : Nat → Int} {c : Nat → Nat} {q : Nat} {f : Nat → Bool} (hc : CD w c q) (hB : BW w c q) (hp : PG w) : ∀ (k i : Nat) (M : xM) (x T : Nat → Int), i + k = q → SS M (mix w c f x i) T → CB w c q M f → EX w c q f x i → NS w x → ∃ (M' : xM) (x' T' : Nat → Int), (∀ n, k < n → fX2_settleBestSet_2 395 n (i : Int) M = some (.inl (Cf q f), M')) ∧ SS M' (mix w c f x' q) T' ∧ fz M M' ∧ EX w c q f x' q ∧ NS w x' ∧ ∀ (X : xM) (h : Int) (m : Nat) (z9 : Int), CM X c q → tb m = f → ∀ n, k < n → fX12_cycle_33 400 (m : Int) z9 n (i : Int) (st X x T h) = fX12_cycle_69 400 xN z9 0 (st X x' T' h) := by
  intro k
  induction k with
  | zero =>
    intro i M x T hk hS hb hE hN
    have hiq : i = q := by omega
    subst hiq
    refine ⟨M, x, T, fun n hn => ?_, hS, fz.refl M, hE, hN, fun X h m z9 hX hm n hn => ?_⟩
    · obtain ⟨n', rfl⟩ : ∃ n', n = n' + 1 := ⟨n - 1, by omega⟩
      rw [fX2_settleBestSet_2, hb.2.1, if_pos (by omega), hb.1.2.1]; rfl
    · obtain ⟨n', rfl⟩ : ∃ n', n = n' + 1 := ⟨n - 1, by omega⟩
      rw [fX12_cycle_33, st_k (by omega), hX.1, if_pos (by omega)]
  | succ k ih =>
    intro i M x T hk hS hb hE hN
    have hq := hc.1
    obtain ⟨ft, -, -⟩ := hB.1 i (by omega)
    have t20 := ft.1
    have hl := (hc.2.1 i (by omega)).1
    have hlx : (c i : Int) < x 1543 := by rw [hE.far (by omega)]; exact hl
    have fx := hE.1.tf hlx
    have cn : ∀ j, (140 ≤ j) → cel j = false := fun j hj => cel_f (by omega)
    have mx : ∀ j, 140 ≤ j → mix w c f x i j = x j := fun j hj => mix_n (cn j hj)
    obtain ⟨fm, e1, e2, e3, e4, e5⟩ := fx.fr (w' := mix w c f x i) (fun j hj => mx j (by omega))
    obtain ⟨-, w1, w2, w3, w4, w5⟩ := ft.fr (w' := x) (fun j hj => hE.far (by omega))
    have hlm : (c i : Int) < mix w c f x i 1543 := by rw [mx _ (by omega)]; exact hlx
    have cl : ∀ n, fX2_settleBestSet_2 395 (n + 1) (i : Int) M = if f i then xb (fX1_settleWhole 3 (102 + c i) M) (fun z5 M6 => fX2_settleBestSet_2 395 n ((i + 1 : Nat) : Int) M6) else fX2_settleBestSet_2 395 n ((i + 1 : Nat) : Int) M := fun n => by
      rw [fX2_settleBestSet_2, hb.2.1, if_neg (by omega), c_cnd (by omega) (by omega) (hb.2.2 i (by omega)), xb_l, Int.toNat_natCast, hS.1.tN t20, c_isin (by omega), xb_l, if_b0, hb.1.1.2 _ t20, pS_c hc (by omega), xr_395_0]
      unfold fX2_settleBestSet_38
      rw [w32_s (by omega)]
    have ml : ∀ (X : xM) (h : Int) (m : Nat) (z9 : Int), CM X c q → tb m = f → ∀ n, fX12_cycle_33 400 (m : Int) z9 (n + 1) (i : Int) (st X x T h) = if f i then xb (fX12_over 400 (c i : Int) 1 (st X x T h)) (fun z1 M2 => fX12_cycle_33 400 (m : Int) z9 n ((i + 1 : Nat) : Int) M2) else fX12_cycle_33 400 (m : Int) z9 n ((i + 1 : Nat) : Int) (st X x T h) := fun X h m z9 hX hm n => by
      rw [fX12_cycle_33, st_k (by omega), hX.1, if_neg (by omega), tb_bit (by omega), if_b1, hm, xix_t (by omega) (by omega), xr_400_4, Int.toNat_natCast, st_c (c := 404) (by omega) (by omega) (by omega), hX.2 i (by omega)]
      unfold fX12_cycle_61
      rw [w32_s (by omega)]
    cases y : f i
    · have em : mix w c f x i = mix w c f x (i + 1) := by
        funext j
        cases z : cel j
        · rw [mix_n z, mix_n z]
        · rw [mix_c z, mix_c z]
          have e : DA w c f (i + 1) j = DA w c f i j + (if f i then dT w (c i) (w (770 + c i)) (w (790 + c i)) j else 0) := rfl
          rw [wA_c z, wA_c z, e, y, if_f, Int.add_zero]
      rw [em] at hS
      obtain ⟨M', x', T', b1, b2, b3, b4, b6, b5⟩ := ih (i + 1) M x T (by omega) hS hb hE.k hN
      refine ⟨M', x', T', fun n hn => ?_, b2, b3, b4, b6, fun X h m z9 hX hm n hn => ?_⟩
      · obtain ⟨n', rfl⟩ : ∃ n', n = n' + 1 := ⟨n - 1, by omega⟩
        rw [cl, y, if_f]; exact b1 n' (by omega)
      · obtain ⟨n', rfl⟩ : ∃ n', n = n' + 1 := ⟨n - 1, by omega⟩
        rw [ml X h m z9 hX hm, y, if_f]; exact b5 X h m z9 hX hm n' (by omega)
    · have hpm : PG (mix w c f x i) := fun e he hn => by
        rw [mx _ (by omega), hE.far (by omega)] at hn
        rw [mx _ (by omega), hE.far (by omega)]; exact hp e he hn
      have hqm : CQ (mix w c f x i) := fun j hj => by
        rw [mix_c hj, wA_c hj]; exact w64_r _
      obtain ⟨M1, a1, a2, a3⟩ := c_whole hS hpm hqm hlm fm
      rw [mx (770 + c i) (by omega), mx (790 + c i) (by omega), hE.far (j := 770 + c i) (by omega), hE.far (j := 790 + c i) (by omega), mix_s y ft fx fm e1 e2 (by rw [e3, w3]) (by rw [e4, w4]) (by rw [e5, w5]), sTb_e e3 e4] at a2
      obtain ⟨s1, s2⟩ := hE.s hc (i := i) (by omega)
      obtain ⟨-, -, -, -, -, -, -, -, -, -, -, -, y1, y2⟩ := (hE.1.2.2.2.2.2.1 (c i) fx.1).1 hlx
      have hN2 : NS w (wPs x (c i) 2) := fun i2 hi2 hz => by
        have hz2 : x (650 + i2) = -1 := by rw [hE.far (by omega)]; exact hz
        rw [wPs_ns hi2 fx.1 (fun z => by rw [← z] at y1; omega) (fun z => by rw [← z] at y2; omega)]
        exact hN i2 hi2 hz
      obtain ⟨M', x', T', b1, b2, b3, b4, b6, b5⟩ := ih (i + 1) M1 (wPs x (c i) 2) (sTb x T (c i)) (by omega) a2 (hb.z a3) s1 hN2
      refine ⟨M', x', T', fun n hn => ?_, b2, a3.trans b3, b4, b6, fun X h m z9 hX hm n hn => ?_⟩
      · obtain ⟨n', rfl⟩ : ∃ n', n = n' + 1 := ⟨n - 1, by omega⟩
        rw [cl, y, if_t, a1, xb_l]; exact b1 n' (by omega)
      · obtain ⟨n', rfl⟩ : ∃ n', n = n' + 1 := ⟨n - 1, by omega⟩
        rw [ml X h m z9 hX hm, y, if_t, m_over hE.1.1 fx (Or.inl rfl), xb_l, s2]; exact b5 X h m z9 hX hm n' (by omega)
