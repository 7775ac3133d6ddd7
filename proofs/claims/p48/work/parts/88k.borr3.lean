-- the model borrows, whole
theorem wOv_1 {w : Nat → Int} {t : Nat} (hC : IC w) (f : TF w t) : wOv w t 1 = wPs w t 2 := by
  have c4 := hC.2.2.2.2.1
  unfold wOv
  exact wLk_id _ _ 0 _ (by rw [wPs_n f (by omega)]; omega)
theorem m_188 {x : Nat → Int} {t : Nat} (hk : LK x t) (hq : CQ x) {V : Nat → Int} {m : Nat} {ac : Nat → Nat} (h : FW x t 10 V m ac) : ∃ U, DR x U ∧ ∀ (X : xM) (T : Nat → Int) (hh : Int), fX12_borrows_188 400 (t : Int) (dl x t : Int) (rc x t : Int) (pp x t : Int) (rm x t 10) ((x 1545).toNat : Int) (((x 1545).toNat + mdn x t 10 : Nat) : Int) (st X V T hh) = if lok x t then some (.inl 1, st X (wBl x t) (sTb x T t) hh) else some (.inl 0, st X U T hh) := by
  have f := hk.f
  have c1 := hk.1.1.2.1
  have c5 := hk.1.1.2.2.2.2.2.1
  have k0 := hk.r0
  have ml := mdn_le x t 10
  obtain ⟨f0, f1, f2, d1, r1, p1, -⟩ := id f
  obtain ⟨-, -, -, -, -, t6, -⟩ := (hk.1.2.2.2.2.2.1 t f0).1 hk.2.1
  obtain ⟨q1, q2, q3, q4⟩ := hk.e (y := V) (fun j a b => h.x (by omega))
  have eT : dT V t (x (770 + t)) (x (790 + t)) = dT x t (x (770 + t)) (x (790 + t)) := by unfold dT; rw [q2, q3, q4]
  have v7 : V (770 + t) = x (770 + t) := h.x (by omega)
  have v9 : V (790 + t) = x (790 + t) := h.x (by omega)
  obtain ⟨U, u2, u1⟩ := m_back hk hq h m 0 xN V (by omega) (by have := h.1; unfold xN; omega) (fun j hj => by
    rw [h.2.2.1 j hj]
    exact congrFun (wA_e (fun j => by show SR x t ac m j = SR x t ac m j - 0; omega)) j) (fun u _ _ => ⟨rfl, rfl⟩) h.2.2.2.1
  refine ⟨U, u2, fun X T hh => ?_⟩
  have mm := m_mov (M := X) (T := T) (h := hh) h.q q1 (x (770 + t)) (x (790 + t))
  rw [eT] at mm
  obtain ⟨g1, -, -, e1, e2, e3⟩ := q1.wA (dT x t (x (770 + t)) (x (790 + t)))
  have mb := m_mov (M := X) (T := T) (h := hh) (wA_q V (dT x t (x (770 + t)) (x (790 + t)))) g1 (-x (770 + t)) (-x (790 + t))
  rw [dT_wA q1, show dT V t (-x (770 + t)) (-x (790 + t)) = dT x t (-x (770 + t)) (-x (790 + t)) by unfold dT; rw [q2, q3, q4], wA_back h.q _ (fun j => dT_n j)] at mb
  have yv : ∀ j, 140 ≤ j → wA V (dT x t (x (770 + t)) (x (790 + t))) j = V j := fun j hj => wA_n (by omega)
  generalize hY : wA V (dT x t (x (770 + t)) (x (790 + t))) = Y at *
  have y41 : Y 1541 = x 1541 := by rw [yv _ (by omega), h.x (by omega)]
  have s1 := m_snd (M := st X Y T hh) d1 (by rw [st_401]; omega) (by rw [st_401]; omega)
  have s2 := m_snd (M := st X Y T hh) r1 (by rw [st_401]; omega) (by rw [st_401]; omega)
  rw [st_401] at s1 s2
  have e295 : fX12_borrows_295 400 (t : Int) (dl x t : Int) (pp x t : Int) ((x 1545).toNat : Int) (((x 1545).toNat + mdn x t 10 : Nat) : Int) 0 (st X Y T hh) = some (.inl 0, st X U T hh) := by
    unfold fX12_borrows_295
    rw [if_pos rfl]
    simp (disch := omega) only [w32_i, xix_t, xr_400_0, tn_add, Int.toNat_natCast, Int.reduceToNat, st_401]
    rw [yv _ (by omega), yv _ (by omega), v7, v9, w64_i (x := -x (770 + t)) (by omega) (by omega), w64_i (x := -x (790 + t)) (by omega) (by omega), mb, xb_l]
    exact u1 X T hh 0
  have l254 : ∀ b, fX12_borrows_254 400 (t : Int) (dl x t : Int) (pp x t : Int) ((x 1545).toNat : Int) (((x 1545).toNat + mdn x t 10 : Nat) : Int) xN (bi b) ((x 1545).toNat : Int) (st X Y T hh) = fX12_borrows_295 400 (t : Int) (dl x t : Int) (pp x t : Int) ((x 1545).toNat : Int) (((x 1545).toNat + mdn x t 10 : Nat) : Int) (bi (b && rA Y ac m 0)) (st X Y T hh) := fun b => m_rA (X := X) (T := T) (hh := hh) hk h yv m 0 xN b (by omega) (by have := h.1; unfold xN; omega)
  have e247 : fX12_borrows_247 400 (t : Int) (dl x t : Int) (pp x t : Int) ((x 1545).toNat : Int) (((x 1545).toNat + mdn x t 10 : Nat) : Int) (st X Y T hh) = some (.inl 0, st X U T hh) := by
    unfold fX12_borrows_247 fX12_borrows_248
    have := l254 false
    rw [Bool.false_and] at this
    rw [show fX12_borrows_254 400 (t : Int) (dl x t : Int) (pp x t : Int) ((x 1545).toNat : Int) (((x 1545).toNat + mdn x t 10 : Nat) : Int) xN 0 ((x 1545).toNat : Int) (st X Y T hh) = _ from this]
    exact e295
  have e248 : fX12_borrows_248 400 (t : Int) (dl x t : Int) (pp x t : Int) ((x 1545).toNat : Int) (((x 1545).toNat + mdn x t 10 : Nat) : Int) 1 (st X Y T hh) = fX12_borrows_295 400 (t : Int) (dl x t : Int) (pp x t : Int) ((x 1545).toNat : Int) (((x 1545).toNat + mdn x t 10 : Nat) : Int) (bi (rA Y ac m 0)) (st X Y T hh) := by
    unfold fX12_borrows_248
    have := l254 true
    rw [Bool.true_and] at this
    exact this
  unfold fX12_borrows_188
  simp (disch := omega) only [w32_i, xix_t, xr_400_0, tn_add, Int.toNat_natCast, Int.reduceToNat, st_401]
  rw [v7, v9, mm, xb_l, e247, s1, xb_l, if_b0, s2, xb_l, if_b0, e248]
  by_cases z1 : rm x t 10 = 0
  · rw [if_pos z1]
    by_cases z2 : (x 1545).toNat + mdn x t 10 ≤ 20
    · rw [if_neg (by omega)]
      have w5 := h.2.2.2.2.1 z2
      have w6 := h.2.2.2.2.2 z2 (fun a => sSnd Y a)
      obtain ⟨wl1, wl2, wl3⟩ := WL_n hk 10 (Nat.le_refl 10) z2
      have yz : ∀ j, (j < 930 ∨ j = 1541) → Y j = wA x (TD x t) j := fun j hj => by
        have vw : V j = WL x t 10 j := by rw [← w5, ups_ne (by omega)]
        rw [← hY]
        cases q : cel j
        · unfold wA; rw [q, if_f, if_f]
          exact h.2.2.2.1 j q (dr_f (by omega))
        · rw [wA_c q, wA_c q, vw, wl3 hq j q, wA_c q, w64_add]
          unfold TD; rw [Int.add_assoc]
      have z41 : wA x (TD x t) 1541 ≤ 4 := by rw [wA_n (by omega)]; omega
      have sD := sSnd_e yz z41 d1
      have sR := sSnd_e yz z41 r1
      have lf : rA Y ac m 0 = lfA x t (wA x (TD x t)) 10 0 := by
        rw [Bool.eq_iff_iff, rA_iff, lfA_iff]
        have q5 : (∀ u, 0 ≤ u → u < 0 + m → sSnd Y (ac u) = true) ↔ ∀ r, r < m → sSnd Y (ac r) = true := ⟨fun g r hr => g r (by omega) (by omega), fun g u _ hu => g u (by omega)⟩
        rw [q5, w6]
        exact ⟨fun g b _ hb hl => by rw [← sSnd_e yz z41 (a := b) (by omega)]; exact g b (by omega) hl, fun g b hb hl => by
          show sSnd Y b = true
          rw [sSnd_e yz z41 (a := b) hb]; exact g b (by omega) (by omega) hl⟩
      have el : lok x t = (sSnd Y (dl x t) && (sSnd Y (rc x t) && rA Y ac m 0)) := by
        unfold lok lFit
        rw [decide_eq_true z1, decide_eq_true z2, ← sD, ← sR, ← lf]; rfl
      rw [el]
      cases sSnd Y (dl x t)
      · rw [if_f]; exact e247
      · rw [if_t]
        cases sSnd Y (rc x t)
        · rw [if_f]; exact e247
        · rw [if_t]
          cases rA Y ac m 0
          · exact e295
          · have eU : ups Y 1545 (((x 1545).toNat + mdn x t 10 : Nat) : Int) = wA (WL x t 10) (dT x t (x (770 + t)) (x (790 + t))) := by rw [← hY, wA_up (cel_f (by omega)), w5]
            obtain ⟨j1, -, -, j2, j3, j4⟩ := g1.fr (w' := ups Y 1545 (((x 1545).toNat + mdn x t 10 : Nat) : Int)) (fun j hj => ups_ne (by omega))
            have iC : IC (ups Y 1545 (((x 1545).toNat + mdn x t 10 : Nat) : Int)) := by
              have y8 : ∀ j, 1540 ≤ j → Y j = x j := fun j hj => by rw [yv _ (by omega), h.x (by omega)]
              have hC := hk.1.1
              unfold IC
              rw [ups_ne (by omega), ups_ne (by omega), ups_ne (by omega), ups_ne (by omega), ups_ne (by omega), ups_same, ups_ne (by omega), ups_ne (by omega), y8 _ (by omega), y8 _ (by omega), y8 _ (by omega), y8 _ (by omega), y8 _ (by omega), y8 _ (by omega), y8 _ (by omega)]
              exact ⟨hC.1, hC.2.1, hC.2.2.1, hC.2.2.2.1, hC.2.2.2.2.1, by omega, hC.2.2.2.2.2.2.1, hC.2.2.2.2.2.2.2⟩
            unfold fX12_borrows_295
            rw [if_neg (by decide), xr_400_0, xput_b, st_w, m_over iC j1 (Or.inl rfl), xb_l, wOv_1 iC j1, sTb_e (w := x) (by rw [j2, e1, q2]) (by rw [j3, e2, q3]), eU]; rfl
    · rw [if_pos (by omega)]
      have : lok x t = false := by unfold lok; rw [decide_eq_false z2, Bool.false_and, Bool.and_false]
      rw [this]; rfl
  · rw [if_neg z1]
    have : lok x t = false := by unfold lok; rw [decide_eq_false z1, Bool.false_and]
    rw [this]; rfl
theorem m_borrows {x : Nat → Int} {t : Nat} (hk : LK x t) (hq : CQ x) (hn : sLd x t = false) : ∃ U, DR x U ∧ ∀ (X : xM) (T : Nat → Int) (hh : Int), fX12_borrows 400 (t : Int) (st X x T hh) = if lok x t then some (.inl 1, st X (wBl x t) (sTb x T t) hh) else some (.inl 0, st X U T hh) := by
  have f := hk.f
  have c5 := hk.1.1.2.2.2.2.2.1
  have k0 := hk.r0
  have k1 := hk.2.2
  obtain ⟨f0, -, -, d1, r1, p1, -⟩ := id f
  obtain ⟨V, m, ac, a1, a2⟩ := m_fw hk hq 10 0 xN x 0 (fun _ => 0) (by omega) (by unfold xN; omega) (FW.z hk hq)
  obtain ⟨U, b1, b2⟩ := m_188 hk hq a1
  refine ⟨U, b1, fun X T hh => ?_⟩
  rw [← b2 X T hh, ← a2 X T hh]
  have md := m_dl (M := st X x T hh) (t := t) f
  have mr := m_rc (M := st X x T hh) (t := t) f
  have mp := m_pp (M := st X x T hh) (t := t) f
  have mf := m_free (M := st X x T hh) d1 p1
  rw [st_401] at md mr mp mf
  have e1 : w64 (x (770 + t) - sFree x (dl x t) (pp x t)) = rm x t 0 := by
    have : rm x t 0 = x (770 + t) - sFree x (dl x t) (pp x t) := rfl
    rw [← this]; exact w64_i (by omega) (by omega)
  unfold fX12_borrows
  rw [md, xb_l, mr, xb_l, mp, xb_l, mf, xb_l]
  simp (disch := omega) only [w32_i, xix_t, xr_400_0, tn_add, Int.toNat_natCast, Int.reduceToNat, st_401, xlet_b]
  rw [e1, if_neg (by omega), m_lkd hk.1.1, xb_l, hn, show x 1545 = ((x 1545).toNat : Int) by omega]
  exact if_pos rfl
