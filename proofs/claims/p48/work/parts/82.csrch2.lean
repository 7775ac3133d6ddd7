-- the class weighs, chooses
theorem c_isin {M : xM} {x : Int} {t : Nat} (ht : t < 32) : fX2_isIn (t : Int) x M = some (.inl (bi (bb x t)), M) := by
  unfold fX2_isIn
  rw [bb_bit x t ht, if_b0]
  cases bb x t <;> rfl
theorem c_ios {M : xM} {x : Nat → Int} (hR : R M x) {t : Nat} (ht : t < 20) : fX2_isInOrSettled 395 (t : Int) M = some (.inl (bi (bb (M 395 5) t || stl x t)), M) := by
  unfold fX2_isInOrSettled fX2_isInOrSettled_26
  rw [c_isin (by omega), xb_l, if_b0, xr_395_0, c_trd (by omega), xb_l, Int.toNat_natCast, hR.tst ht]
  unfold stl
  cases bb (M 395 5) t
  · rw [if_f]
    by_cases q : x (870 + t) = 1
    · rw [if_pos (by omega), decide_eq_true q]; rfl
    · rw [if_neg (by omega), decide_eq_false q]; rfl
  · rw [if_t]; rfl
/-- the links join live trades -/
def KX (w : Nat → Int) : Prop := IC w ∧ IK w
theorem KX.n {w : Nat → Int} (h : KX w) {i : Nat} (hi : (i : Int) < w 1544) : ∃ x y : Nat, w (890 + i) = (x : Int) ∧ w (900 + i) = (y : Int) ∧ x < 20 ∧ y < 20 ∧ i < 10 ∧ B01 (w (910 + i)) := by
  obtain ⟨hC, hK⟩ := h
  have c3 := hC.2.2.2.1
  have c4 := hC.2.2.2.2.1
  obtain ⟨k1, k2, k3⟩ := hK i (by omega) hi
  exact ⟨(w (890 + i)).toNat, (w (900 + i)).toNat, by omega, by omega, by omega, by omega, by omega, k3⟩
theorem stl_A {w D : Nat → Int} {t : Nat} : stl (wA w D) t = stl w t := by unfold stl; rw [wA_n (by omega)]
theorem c_lk {M : xM} {w : Nat → Int} {c : Nat → Nat} {q : Nat} {f : Nat → Bool} (hD : DX w c q M f) (hK : KX w) : ∀ (k i n : Nat), i + k = (w 1544).toNat → k < n → fX2_areLinksKept_2 395 n (i : Int) M = some (.inl (bi (lkA w c q f k i)), M)
  | _, _, 0, _, hn => absurd hn (Nat.not_lt_zero _)
  | 0, i, n + 1, hi, _ => by
    have c4 := hK.1.2.2.2.2.1
    rw [fX2_areLinksKept_2, xr_395_0, if_pos (by rw [hD.1.nK, wA_n (by omega)]; omega)]; rfl
  | k + 1, i, n + 1, hi, hn => by
    have c4 := hK.1.2.2.2.2.1
    have hl : (i : Int) < w 1544 := by omega
    obtain ⟨x, y, x1, y1, x2, y2, i2, b⟩ := hK.n hl
    obtain ⟨d1, d2, -⟩ := id hD
    have l0 : (i : Int) < wA w (DA w c f q) 1544 := by rw [wA_n (by omega)]; exact hl
    have l1 : M (123 + i) 0 = (x : Int) := by rw [d1.kfst i2 l0, wA_n (by omega)]; exact x1
    have l2 : M (123 + i) 1 = (y : Int) := by rw [d1.ksnd i2 l0, wA_n (by omega)]; exact y1
    have l3 : M (123 + i) 2 = w (910 + i) := by rw [d1.kwit i2 l0, wA_n (by omega)]
    have ih : fX2_areLinksKept_103 (fX2_areLinksKept_2 395 n) 395 (i : Int) M = some (.inl (bi (lkA w c q f k (i + 1))), M) := by
      unfold fX2_areLinksKept_103
      rw [w32_s (by omega)]
      exact c_lk hD hK k (i + 1) n (by omega) (by omega)
    have e83 : ∀ (s : Bool) (s0 : Bool), fX2_areLinksKept_83 (fX2_areLinksKept_2 395 n) 395 (i : Int) (123 + i) (bi s) (bi s0) M = some (.inl (bi ((!s && !(decide (w (910 + i) = 1) && s0)) && lkA w c q f k (i + 1))), M) := fun s s0 => by
      unfold fX2_areLinksKept_83
      rw [ih, l3, if_b0, b.nz, if_b0]
      cases s
      · rw [if_f]
        cases decide (w (910 + i) = 1)
        · rfl
        · cases s0 <;> rfl
      · rfl
    have e52 : ∀ s : Bool, fX2_areLinksKept_52 (fX2_areLinksKept_2 395 n) 395 (i : Int) (123 + i) (bi s) M = some (.inl (bi ((!s && !(decide (w (910 + i) = 1) && lkP w c q f y x)) && lkA w c q f k (i + 1))), M) := fun s => by
      have e1 := e83 s true
      have e0 := e83 s false
      unfold fX2_areLinksKept_52 fX2_areLinksKept_82 lkP
      rw [l2, c_isin (by omega), xb_l, if_b0, l1, c_ios d1 x2, xb_l, if_b0, d2.2 y y2, d2.2 x x2, stl_A, show (0 : Int) = bi false from rfl, show (1 : Int) = bi true from rfl, e0, e1]
      cases pS c f q y
      · rfl
      · rw [if_t]
        cases (pS c f q x || stl w x) <;> rfl
    rw [fX2_areLinksKept_2, xr_395_0, if_neg (by rw [d1.nK, wA_n (by omega)]; omega), c_lnk (by omega), xb_l, Int.toNat_natCast, l1, c_isin (by omega), xb_l, if_b0, l2, c_ios d1 y2, xb_l, if_b0, d2.2 x x2, d2.2 y y2, stl_A]
    unfold fX2_areLinksKept_51
    rw [show (0 : Int) = bi false from rfl, show (1 : Int) = bi true from rfl, e52 true, e52 false]
    rw [show lkA w c q f (k + 1) i = (lkO w c q f i && lkA w c q f k (i + 1)) from rfl]
    unfold lkO
    rw [x1, y1, Int.toNat_natCast, Int.toNat_natCast, show lkP w c q f x y = (pS c f q x && !(pS c f q y || stl w y)) from rfl]
    cases pS c f q x
    · rfl
    · rw [if_t]
      cases (pS c f q y || stl w y) <;> rfl
theorem dT_b {w : Nat → Int} {t : Nat} {u a : Int} (h : 0 ≤ u) {j : Nat} (hj : 100 ≤ j) (f : TF w t) : -u ≤ dT w t u a j ∧ dT w t u a j ≤ u := by
  have := f.2.2.2.1
  have := f.2.2.2.2.1
  unfold dT
  split
  · omega
  · split
    · omega
    · rw [if_neg (by omega), if_neg (by omega)]; omega
theorem BW.hb {w : Nat → Int} {c : Nat → Nat} {q : Nat} (h : BW w c q) (hq : q ≤ 10) (f : Nat → Bool) {a : Nat} (ha : a < 10) : hb (wA w (DA w c f q)) a := fun s hs => by
  obtain ⟨b1, b2, b3⟩ := h
  have x1 := b3 a s ha hs
  have x2 := b2 s hs
  have x3 := sf_abs (f := f) (g := fun k => dT w (c k) (w (770 + c k)) (w (790 + c k)) (100 + 4 * a + s)) (B := 59049000000) (by omega) q (fun k hk => by
    obtain ⟨ft, u, _⟩ := b1 k hk
    have := dT_b (w := w) (t := c k) (a := w (790 + c k)) u.1 (j := 100 + 4 * a + s) (by omega) ft
    show -59049000000 ≤ dT w (c k) (w (770 + c k)) (w (790 + c k)) (100 + 4 * a + s) ∧ _
    omega)
  have x4 : wA w (DA w c f q) (100 + 4 * a + s) = w (100 + 4 * a + s) + DA w c f q (100 + 4 * a + s) := by
    rw [wA_c (cel_t (by omega))]
    exact w64_i (by unfold DA; omega) (by unfold DA; omega)
  rw [x4, wA_n (by omega), wA_n (by omega)]
  unfold DA; omega
theorem c_fm {M : xM} {w : Nat → Int} {c : Nat → Nat} {q : Nat} {f : Nat → Bool} (hD : DX w c q M f) (hc : CD w c q) (hB : BW w c q) (hC : IC w) : ∀ (k i n : Nat), i + k = q → k < n → fX2_areAllFirm_2 395 n (i : Int) M = some (.inl (bi (fmA (wA w (DA w c f q)) w c f k i)), M)
  | _, _, 0, _, hn => absurd hn (Nat.not_lt_zero _)
  | 0, i, n + 1, hi, _ => by
    rw [fX2_areAllFirm_2, if_pos (by rw [hD.2.2.2.2.1]; omega)]; rfl
  | k + 1, i, n + 1, hi, hn => by
    obtain ⟨d1, d2, d3, d4, d5, d6⟩ := id hD
    have hq := hc.1
    have c1 := hC.2.1
    obtain ⟨ft, -, -⟩ := hB.1 i (by omega)
    obtain ⟨f1, -, -, e1, e2, e3⟩ := ft.wA (DA w c f q)
    have hl : (c i : Int) < wA w (DA w c f q) 1543 := by rw [wA_n (by omega)]; exact (hc.2.1 i (by omega)).1
    have ih : fX2_areAllFirm_60 (fX2_areAllFirm_2 395 n) 395 (i : Int) M = some (.inl (bi (fmA (wA w (DA w c f q)) w c f k (i + 1))), M) := by
      unfold fX2_areAllFirm_60
      rw [w32_s (by omega)]
      exact c_fm hD hc hB hC k (i + 1) n (by omega) (by omega)
    rw [fX2_areAllFirm_2, if_neg (by rw [d5]; omega), c_cnd (by omega) (by have := ft.1; omega) (d6 i (by omega)), xb_l, Int.toNat_natCast, d1.tN ft.1, c_isin (by have := ft.1; omega), xb_l, if_b0, d2.2 _ ft.1, pS_c hc (by omega), ih, xr_395_0, d1.tD hl f1, e1, c_firm d1 ft.2.2.2.1 (by rw [wA_n (by omega)]; omega) (by rw [wA_n (by omega)]; omega) (hB.hb hq f ft.2.2.2.1), xb_l, if_b0, d1.tR hl f1, e2, c_firm d1 ft.2.2.2.2.1 (by rw [wA_n (by omega)]; omega) (by rw [wA_n (by omega)]; omega) (hB.hb hq f ft.2.2.2.2.1), xb_l, if_b0]
    rw [show fmA (wA w (DA w c f q)) w c f (k + 1) i = (fmO (wA w (DA w c f q)) w c f i && fmA (wA w (DA w c f q)) w c f k (i + 1)) from rfl]
    unfold fmO
    cases f i
    · rfl
    · rw [if_t]
      cases sSnd (wA w (DA w c f q)) (dl w (c i))
      · rfl
      · rw [if_t]
        cases sSnd (wA w (DA w c f q)) (rc w (c i))
        · rfl
        · rw [if_t, ih]; rfl
theorem c_weigh {M : xM} {w : Nat → Int} {c : Nat → Nat} {q : Nat} {f r : Nat → Bool} (hD : DX w c q M f) (hS : BX w c q M r) (hc : CD w c q) (hB : BW w c q) (hK : KX w) : ∃ M', fX2_weigh 395 M = some (.inl 0, M') ∧ DX w c q M' f ∧ BX w c q M' (wk (Wf w c q) (Cf q) (may w c q) f r) ∧ fg M M' := by
  obtain ⟨d1, d2, d3, d4, d5, d6⟩ := id hD
  obtain ⟨s1, s2, s3⟩ := id hS
  have c4 := hK.1.2.2.2.2.1
  have lk : fX2_areLinksKept 395 M = some (.inl (bi (lkA w c q f (w 1544).toNat 0)), M) := c_lk hD hK (w 1544).toNat 0 xN (by omega) (by unfold xN; omega)
  have fm : fX2_areAllFirm 395 M = some (.inl (bi (fmA (wA w (DA w c f q)) w c f q 0)), M) := c_fm hD hc hB hK.1 q 0 xN (by omega) (by have := hc.1; unfold xN; omega)
  have key : ∀ b : Bool, (b = true ↔ (Wf w c q r < Wf w c q f ∨ (Wf w c q f = Wf w c q r ∧ Cf q r < Cf q f))) → ∃ M', fX2_weigh_40 395 (bi b) M = some (.inl 0, M') ∧ DX w c q M' f ∧ BX w c q M' (wk (Wf w c q) (Cf q) (may w c q) f r) ∧ fg M M' := fun b hb => by
    have no : ¬ (b = true ∧ may w c q f = true) → wk (Wf w c q) (Cf q) (may w c q) f r = r := fun h => by
      unfold wk; rw [if_neg (fun z => h ⟨hb.2 z.1, z.2⟩)]
    unfold fX2_weigh_40
    rw [if_b0, lk, xb_l, if_b0, fm, xb_l, if_b0]
    cases b
    · rw [if_f, no (fun z => by cases z.1)]
      exact ⟨M, rfl, hD, hS, fg.refl M⟩
    · rw [if_t]
      cases l : lkA w c q f (w 1544).toNat 0
      · rw [if_f, no (fun z => by have := z.2; unfold may at this; rw [l] at this; cases this)]
        exact ⟨M, rfl, hD, hS, fg.refl M⟩
      · rw [if_t]
        cases m : fmA (wA w (DA w c f q)) w c f q 0
        · rw [if_f, no (fun z => by have := z.2; unfold may at this; rw [l, m] at this; cases this)]
          exact ⟨M, rfl, hD, hS, fg.refl M⟩
        · have yes : wk (Wf w c q) (Cf q) (may w c q) f r = f := by
            unfold wk; rw [if_pos ⟨hb.1 rfl, by unfold may; rw [l, m]; rfl⟩]
          rw [if_t, yes, xput_b, xput_b, xput_b]
          refine ⟨_, rfl, ⟨((d1.fr (fun x _ _ => xup_row (by omega))).fr (fun x _ _ => xup_row (by omega))).fr (fun x _ _ => xup_row (by omega)), ?_, ?_, ?_, ?_, fun k hk => ?_⟩, ⟨⟨?_, fun t ht => ?_⟩, ?_, ?_⟩, (fg.refl M).x.x.x⟩
          · rw [xup_k (by omega), xup_k (by omega), xup_k (by omega)]; exact d2
          · rw [xup_k (by omega), xup_k (by omega), xup_k (by omega)]; exact d3
          · rw [xup_k (by omega), xup_k (by omega), xup_k (by omega)]; exact d4
          · rw [xup_k (by omega), xup_k (by omega), xup_k (by omega)]; exact d5
          · rw [xup_c (by omega), xup_c (by omega), xup_c (by omega)]; exact d6 k hk
          · rw [xup_k (by omega), xup_k (by omega), xup_same]; exact d2.1
          · rw [xup_k (by omega), xup_k (by omega), xup_same]; exact d2.2 t ht
          · rw [xup_k (by omega), xup_same, xup_k (by omega)]; exact d3
          · rw [xup_same, xup_k (by omega), xup_k (by omega)]; exact d4
  unfold fX2_weigh fX2_weigh_39 fX2_weigh_35
  rw [d4, d3, s3, s2]
  by_cases z : Wf w c q r < Wf w c q f
  · rw [if_pos z]
    exact key true ⟨fun _ => Or.inl z, fun _ => rfl⟩
  · rw [if_neg z]
    by_cases y : Wf w c q f = Wf w c q r
    · rw [if_pos y]
      by_cases x : Cf q f ≤ Cf q r
      · rw [if_pos x]
        exact key false ⟨fun e => (by cases e), fun e => by omega⟩
      · rw [if_neg x]
        exact key true ⟨fun _ => Or.inr ⟨y, by omega⟩, fun _ => rfl⟩
    · rw [if_neg y]
      exact key false ⟨fun e => (by cases e), fun e => by omega⟩
theorem c_choose {w : Nat → Int} {c : Nat → Nat} {q : Nat} (hc : CD w c q) (hB : BW w c q) (hK : KX w) : ∀ (d n x : Nat) (M : xM) (S B : Nat → Bool), n + d = q → d < x → FF n S → DX w c q M S → BX w c q M B → (∀ i, i ≤ 10 → M 397 i = re (gW w c) q i) → ∃ M', fX2_choose x 395 (n : Int) M = some (.inl 0, M') ∧ DX w c q M' S ∧ BX w c q M' (dfs (Wf w c q) (Cf q) (may w c q) (gW w c) q d n S B) ∧ fg M M' := by
  intro d
  induction d with
  | zero =>
    intro n x M S B hn hx hF hD hS h7
    obtain ⟨x, rfl⟩ : ∃ y, x = y + 1 := ⟨x - 1, by omega⟩
    have hq := hc.1
    have wb := Wf_b hB hq S
    have r0 := re_q (gW w c) q n (by omega)
    rw [fX2_choose, if_neg (by omega), if_pos (by omega), xix_t (by omega) (by omega), xr_395_2, Int.toNat_natCast, h7 n (by omega), hD.2.2.2.1, hS.2.2, hD.2.2.2.2.1, w64_i (by omega) (by omega)]
    unfold dfs
    by_cases z : Wf w c q S + re (gW w c) q n < Wf w c q B
    · rw [if_neg (by omega), if_pos z]
      exact ⟨M, rfl, hD, hS, fg.refl M⟩
    · rw [if_pos (by omega), if_neg z, if_neg (by omega)]
      obtain ⟨M', a1, a2⟩ := c_weigh hD hS hc hB hK
      exact ⟨M', by rw [a1, xb_l]; rfl, a2⟩
  | succ d ih =>
    intro n x M S B hn hx hF hD hS h7
    obtain ⟨x, rfl⟩ : ∃ y, x = y + 1 := ⟨x - 1, by omega⟩
    have hq := hc.1
    have wb := Wf_b hB hq S
    have rb1 := sf_nn (f := fun k => decide (n ≤ k)) (g := gW w c) q (fun k hk => (hB.g hk).1)
    have rb2 := sf_le (f := fun k => decide (n ≤ k)) (g := gW w c) (B := 60000000000000) (by omega) q (fun k hk => (hB.g hk).2.1)
    have rb : 0 ≤ re (gW w c) q n ∧ re (gW w c) q n ≤ 600000000000000 := by unfold re; omega
    rw [fX2_choose, if_neg (by omega), if_pos (by omega), xix_t (by omega) (by omega), xr_395_2, Int.toNat_natCast, h7 n (by omega), hD.2.2.2.1, hS.2.2, hD.2.2.2.2.1, w64_i (by omega) (by omega)]
    unfold dfs
    by_cases z : Wf w c q S + re (gW w c) q n < Wf w c q B
    · rw [if_neg (by omega), if_pos z]
      exact ⟨M, rfl, hD, hS, fg.refl M⟩
    · rw [if_pos (by omega), if_neg z, if_pos (by omega)]
      obtain ⟨ft, -, -⟩ := hB.1 n (by omega)
      obtain ⟨M1, a1, a2, a3, a4⟩ := c_put hc hB (k := n) (by omega) (hF n (Nat.le_refl n)) hD hS
      obtain ⟨M2, b1, b2, b3, b4⟩ := ih (n + 1) x M1 (gs S n) B (by omega) (by omega) ((hF.mono (by omega)).gs (by omega)) a2 a3 (fun i hi => by rw [a4 397 (by omega) (by omega)]; exact h7 i hi)
      obtain ⟨M3, e1, e2, e3, e4⟩ := c_take hc hB (k := n) (by omega) (hF n (Nat.le_refl n)) b2 b3
      obtain ⟨M4, g1, g2, g3, g4⟩ := ih (n + 1) x M3 S _ (by omega) (by omega) (hF.mono (by omega)) e2 e3 (fun i hi => by rw [e4 397 (by omega) (by omega), b4 397 (by omega) (by omega), a4 397 (by omega) (by omega)]; exact h7 i hi)
      refine ⟨M4, ?_, g2, g3, ((a4.trans b4).trans e4).trans g4⟩
      rw [c_cnd (by omega) (by have := ft.1; omega) (hD.2.2.2.2.2 n (by omega)), xb_l, Int.toNat_natCast, a1, xb_l, w32_s (by omega), b1, xb_l, e1, xb_l, g1, xb_l]; rfl
