-- the model's best set
/-- the model's notes hold the candidates -/
def CM (M : xM) (c : Nat → Nat) (q : Nat) : Prop := M 400 5 = (q : Int) ∧ ∀ k, k < q → M 404 k = (c k : Int)
theorem if_b1 {b : Bool} {α : Type} {p q : α} : (if bi b = 1 then p else q) = if b then p else q := by cases b <;> rfl
theorem if_be {p : Prop} [Decidable p] {α : Type} {b : Bool} {x y : α} (h : p ↔ b = true) : (if p then x else y) = if b then x else y := by
  cases b
  · rw [if_neg (fun z => by have := h.1 z; cases this), if_f]
  · rw [if_pos (h.2 rfl), if_t]
theorem tb_bit {m k : Nat} (hk : k < 32) : xand (xshr (m : Int) (k : Int)) 1 = bi (tb m k) := by
  rw [bb_bit _ k hk, bb_nat hk]; rfl
theorem m_hasl {M : xM} {x T : Nat → Int} {h : Int} {c : Nat → Nat} {q m t : Nat} (hC : CM M c q) (hq : q ≤ 10) (b : Bool) : ∀ (k i n : Nat), i + k = q → k < n → fX12_has_24 400 (m : Int) (t : Int) n (bi (b || pS c (tb m) i t)) (i : Int) (st M x T h) = some (.inl (bi (b || pS c (tb m) q t)), st M x T h)
  | _, _, 0, _, hn => absurd hn (Nat.not_lt_zero _)
  | 0, i, n + 1, hi2, _ => by
    have hiq : i = q := by omega
    subst hiq
    rw [fX12_has_24, st_k (by omega), hC.1, if_pos (by omega)]; rfl
  | k + 1, i, n + 1, hi2, hn => by
    have e : ∀ s : Bool, s = (tb m i && decide (c i = t)) → fX12_has_60 (fX12_has_24 400 (m : Int) (t : Int) n) 400 (m : Int) (t : Int) (i : Int) (bi s) (bi (b || pS c (tb m) i t)) (st M x T h) = some (.inl (bi (b || pS c (tb m) q t)), st M x T h) := fun s hs => by
      unfold fX12_has_60
      rw [xor_bi, w32_s (by omega), Bool.or_assoc, hs]
      exact m_hasl hC hq b k (i + 1) n (by omega) (by omega)
    have e0' := e false
    have e1' := e true
    rw [fX12_has_24, st_k (by omega), hC.1, if_neg (by omega), xix_t (by omega) (by omega), xr_400_4, Int.toNat_natCast, st_c (by omega) (by omega) (by omega), hC.2 i (by omega), tb_bit (by omega), if_b1]
    unfold fX12_has_59
    by_cases z : c i = t
    · rw [if_pos (by omega)]
      cases y : tb m i
      · rw [if_f]; exact e0' (by rw [y]; rfl)
      · rw [if_t]; exact e1' (by rw [y, decide_eq_true z]; rfl)
    · rw [if_neg (by omega)]; exact e0' (by rw [decide_eq_false z, Bool.and_false])
theorem m_has {M : xM} {x T : Nat → Int} {h : Int} {c : Nat → Nat} {q m t : Nat} (hC : CM M c q) (hq : q ≤ 10) (ht : t < 20) : fX12_has 400 (m : Int) (t : Int) (st M x T h) = some (.inl (bi (stl x t || pS c (tb m) q t)), st M x T h) := by
  unfold fX12_has fX12_has_20 stl
  simp (disch := omega) only [w32_i, xix_t, xr_400_0, tn_add, Int.toNat_natCast, Int.reduceToNat, st_401]
  by_cases z : x (870 + t) = 1
  · rw [if_pos z, decide_eq_true z]
    exact m_hasl hC hq true q 0 xN (by omega) (by unfold xN; omega)
  · rw [if_neg z, decide_eq_false z]
    exact m_hasl hC hq false q 0 xN (by omega) (by unfold xN; omega)
theorem m_inS {M : xM} {w T : Nat → Int} {h : Int} {c : Nat → Nat} {q m t : Nat} (hC : CM M c q) (hc : CD w c q) (ht : t < 20) : fX12_inSet 400 (m : Int) (t : Int) (st M w T h) = some (.inl (bi (pS c (tb m) q t)), st M w T h) := by
  have hs : w (870 + t) = 1 → pS c (tb m) q t = false := fun z => by
    cases y : pS c (tb m) q t
    · rfl
    · obtain ⟨k, k1, -, k3⟩ := (pS_iff q).1 y
      have := (hc.2.1 k k1).2
      rw [k3] at this; omega
  unfold fX12_inSet
  rw [m_has hC hc.1 ht]
  simp (disch := omega) only [w32_i, xix_t, xr_400_0, tn_add, Int.toNat_natCast, Int.reduceToNat, st_401]
  unfold stl
  by_cases z : w (870 + t) = 1
  · rw [if_pos z, hs z]; rfl
  · rw [if_neg z, decide_eq_false z, Bool.false_or, xb_l, if_b0]
    cases pS c (tb m) q t <;> rfl
theorem m_lk {M : xM} {w T : Nat → Int} {h : Int} {c : Nat → Nat} {q m : Nat} (hC : CM M c q) (hc : CD w c q) (hK : KX w) : ∀ (k i n : Nat) (b : Bool), i + k = (w 1544).toNat → k < n → fX12_keepsLinks_4 400 (m : Int) n (bi b) (i : Int) (st M w T h) = some (.inl (bi (b && lkA w c q (tb m) k i)), st M w T h)
  | _, _, 0, _, _, hn => absurd hn (Nat.not_lt_zero _)
  | 0, i, n + 1, b, hi2, _ => by
    have c4 := hK.1.2.2.2.2.1
    rw [fX12_keepsLinks_4, xr_400_0, st_401, if_pos (by omega), show lkA w c q (tb m) 0 i = true from rfl, Bool.and_true]; rfl
  | k + 1, i, n + 1, b, hi2, hn => by
    have c4 := hK.1.2.2.2.2.1
    obtain ⟨x, y, x1, y1, x2, y2, i2, b01⟩ := hK.n (i := i) (by omega)
    have e113 : ∀ a s : Bool, fX12_keepsLinks_113 (fX12_keepsLinks_4 400 (m : Int) n) 400 (m : Int) (i : Int) (bi s) (bi a) (st M w T h) = some (.inl (bi ((a && s) && lkA w c q (tb m) k (i + 1))), st M w T h) := fun a s => by
      unfold fX12_keepsLinks_113
      rw [xand_bi, w32_s (by omega)]
      exact m_lk hC hc hK k (i + 1) n (a && s) (by omega) (by omega)
    have e70 : ∀ s : Bool, fX12_keepsLinks_70 (fX12_keepsLinks_4 400 (m : Int) n) 400 (m : Int) (i : Int) (x : Int) (y : Int) (bi s) (bi b) (st M w T h) = some (.inl (bi (((b && s) && !(decide (w (910 + i) = 1) && lkP w c q (tb m) y x)) && lkA w c q (tb m) k (i + 1))), st M w T h) := fun s => by
      have f0 : fX12_keepsLinks_113 (fX12_keepsLinks_4 400 (m : Int) n) 400 (m : Int) (i : Int) 0 (bi (b && s)) (st M w T h) = _ := e113 (b && s) false
      have f1 : fX12_keepsLinks_113 (fX12_keepsLinks_4 400 (m : Int) n) 400 (m : Int) (i : Int) 1 (bi (b && s)) (st M w T h) = _ := e113 (b && s) true
      unfold fX12_keepsLinks_70 fX12_keepsLinks_108 lkP
      simp (disch := omega) only [w32_i, xix_t, xr_400_0, tn_add, Int.toNat_natCast, Int.reduceToNat, st_401]
      rw [b01.nz, m_inS hC hc y2, xb_l, if_b0, m_has hC hc.1 x2, xb_l, if_b0, xand_bi, f0, f1, Bool.or_comm (stl w x)]
      cases decide (w (910 + i) = 1)
      · rw [if_f]; rfl
      · rw [if_t]
        cases pS c (tb m) q y
        · rfl
        · rw [if_t]
          cases (pS c (tb m) q x || stl w x) <;> rfl
    rw [fX12_keepsLinks_4, xr_400_0, st_401, if_neg (by omega)]
    simp (disch := omega) only [w32_i, xix_t, xr_400_0, tn_add, Int.toNat_natCast, Int.reduceToNat, st_401, x1, y1, xlet_b]
    unfold fX12_keepsLinks_65
    have g0 : fX12_keepsLinks_70 (fX12_keepsLinks_4 400 (m : Int) n) 400 (m : Int) (i : Int) (x : Int) (y : Int) 0 (bi b) (st M w T h) = _ := e70 false
    have g1 : fX12_keepsLinks_70 (fX12_keepsLinks_4 400 (m : Int) n) 400 (m : Int) (i : Int) (x : Int) (y : Int) 1 (bi b) (st M w T h) = _ := e70 true
    rw [m_inS hC hc x2, xb_l, if_b0, m_has hC hc.1 y2, xb_l, if_b0, g0, g1]
    rw [show lkA w c q (tb m) (k + 1) i = (lkO w c q (tb m) i && lkA w c q (tb m) k (i + 1)) from rfl]
    unfold lkO
    rw [x1, y1, Int.toNat_natCast, Int.toNat_natCast, show lkP w c q (tb m) x y = (pS c (tb m) q x && !(pS c (tb m) q y || stl w y)) from rfl, Bool.or_comm (stl w y)]
    generalize (decide (w (910 + i) = 1) && lkP w c q (tb m) y x) = A
    generalize lkA w c q (tb m) k (i + 1) = L
    cases pS c (tb m) q x
    · cases b <;> cases A <;> cases L <;> rfl
    · rw [if_t]
      cases (pS c (tb m) q y || stl w y) <;> cases b <;> cases A <;> cases L <;> rfl
theorem m_mall {M : xM} {w T : Nat → Int} {h : Int} {c : Nat → Nat} {q m : Nat} (hC : CM M c q) (hc : CD w c q) (hB : BW w c q) (s : Int) (E : Nat → Nat → Int) (hE : ∀ i, i < q → ∀ j, E (i + 1) j = E i j + (if tb m i then dT w (c i) (w64 (s * w (770 + c i))) (w64 (s * w (790 + c i))) j else 0)) : ∀ (k i n : Nat), i + k = q → k < n → fX12_moveAll_2 400 (m : Int) s n (i : Int) (st M (wA w (E i)) T h) = some (.inl 0, st M (wA w (E q)) T h)
  | _, _, 0, _, hn => absurd hn (Nat.not_lt_zero _)
  | 0, i, n + 1, hi2, _ => by
    have hiq : i = q := by omega
    subst hiq
    rw [fX12_moveAll_2, st_k (by omega), hC.1, if_pos (by omega)]; rfl
  | k + 1, i, n + 1, hi2, hn => by
    have hq := hc.1
    obtain ⟨ft, -, -⟩ := hB.1 i (by omega)
    have t20 := ft.1
    have ih := m_mall (T := T) (h := h) hC hc hB s E hE k (i + 1) n (by omega) (by omega)
    rw [fX12_moveAll_2, st_k (by omega), hC.1, if_neg (by omega), tb_bit (by omega), if_b1]
    unfold fX12_moveAll_65
    rw [w32_s (by omega)]
    have hEi := hE i (by omega)
    cases y : tb m i
    · rw [y] at hEi
      rw [if_f, wA_e (w := w) (D := E i) (E := E (i + 1)) (fun j => by rw [hEi j, if_f, Int.add_zero])]
      exact ih
    · rw [y] at hEi
      obtain ⟨f1, -⟩ := ft.wA (E i)
      rw [if_t, xr_400_4, xr_400_0, Int.toNat_natCast, st_c (c := 404) (by omega) (by omega) (by omega), hC.2 i (by omega)]
      simp (disch := omega) only [w32_i, xix_t, xr_400_0, tn_add, Int.toNat_natCast, Int.reduceToNat, st_401, wA_n]
      rw [m_mov (wA_q _ _) f1, xb_l, dT_wA ft, wA_wA, wA_e (E := E (i + 1)) (fun j => by rw [hEi j, if_t])]
      exact ih
theorem m_moveIn {M : xM} {w T : Nat → Int} {h : Int} {c : Nat → Nat} {q m : Nat} (hC : CM M c q) (hc : CD w c q) (hB : BW w c q) (hQ : CQ w) : fX12_moveAll 400 (m : Int) 1 (st M w T h) = some (.inl 0, st M (wA w (DA w c (tb m) q)) T h) := by
  have := m_mall (M := M) (T := T) (h := h) hC hc hB 1 (fun i j => DA w c (tb m) i j) (fun i hi2 j => by
    obtain ⟨ft, u, a⟩ := hB.1 i hi2
    rw [Int.one_mul, Int.one_mul, w64_i (by omega) (by omega), w64_i (by omega) (by omega)]; rfl) q 0 xN (by omega) (by have := hc.1; unfold xN; omega)
  rw [show wA w (fun j => DA w c (tb m) 0 j) = w from wA_0 hQ (fun j => rfl)] at this
  unfold fX12_moveAll; exact this
theorem m_moveOut {M : xM} {w T : Nat → Int} {h : Int} {c : Nat → Nat} {q m : Nat} (hC : CM M c q) (hc : CD w c q) (hB : BW w c q) (hQ : CQ w) : fX12_moveAll 400 (m : Int) (-1) (st M (wA w (DA w c (tb m) q)) T h) = some (.inl 0, st M w T h) := by
  have := m_mall (M := M) (T := T) (h := h) hC hc hB (-1) (fun i j => DA w c (tb m) q j - DA w c (tb m) i j) (fun i hi2 j => by
    obtain ⟨ft, u, a⟩ := hB.1 i hi2
    have e : DA w c (tb m) (i + 1) j = DA w c (tb m) i j + (if tb m i then dT w (c i) (w (770 + c i)) (w (790 + c i)) j else 0) := rfl
    rw [e, Int.neg_one_mul, Int.neg_one_mul, w64_i (by omega) (by omega), w64_i (by omega) (by omega), dT_n]
    cases tb m i
    · rw [if_f, if_f]; omega
    · rw [if_t, if_t]; omega) q 0 xN (by omega) (by have := hc.1; unfold xN; omega)
  rw [wA_0 hQ (D := fun j => DA w c (tb m) q j - DA w c (tb m) q j) (fun j => by show DA w c (tb m) q j - DA w c (tb m) q j = 0; omega), wA_e (E := DA w c (tb m) q) (D := fun j => DA w c (tb m) q j - DA w c (tb m) 0 j) (fun j => by show DA w c (tb m) q j - 0 = _; omega)] at this
  unfold fX12_moveAll; exact this
theorem m_cl {M : xM} {w x T : Nat → Int} {h : Int} {c : Nat → Nat} {q m : Nat} (hC : CM M c q) (hc : CD w c q) (hB : BW w c q) (hI : IC w) (D : Nat → Int) (hx : x = wA w D) : ∀ (k i n : Nat) (b : Bool), i + k = q → k < n → fX12_can_14 400 (m : Int) n (bi b) (i : Int) (st M x T h) = fX12_can_93 400 (m : Int) (bi (b && fmA x w c (tb m) k i)) (st M x T h)
  | _, _, 0, _, _, hn => absurd hn (Nat.not_lt_zero _)
  | 0, i, n + 1, b, hi2, _ => by
    rw [fX12_can_14, st_k (by omega), hC.1, if_pos (by omega), show fmA x w c (tb m) 0 i = true from rfl, Bool.and_true]
  | k + 1, i, n + 1, b, hi2, hn => by
    have hq := hc.1
    have c1 := hI.2.1
    obtain ⟨ft, -, -⟩ := hB.1 i (by omega)
    have t20 := ft.1
    have x41 : x 1541 = w 1541 := by rw [hx]; exact wA_n (by omega)
    obtain ⟨f1, -, -, e1, e2, -⟩ := ft.wA D
    rw [← hx] at f1 e1 e2
    cases b
    · rw [fX12_can_14, st_k (by omega), hC.1, if_neg (by omega), if_b0, if_f, Bool.false_and]
    · have ih : ∀ a : Bool, fX12_can_86 (fX12_can_14 400 (m : Int) n) 400 (m : Int) (i : Int) (bi a) (st M x T h) = fX12_can_93 400 (m : Int) (bi (a && fmA x w c (tb m) k (i + 1))) (st M x T h) := fun a => by
        unfold fX12_can_86
        rw [w32_s (by omega)]
        exact m_cl hC hc hB hI D hx k (i + 1) n a (by omega) (by omega)
      have i0 : fX12_can_86 (fX12_can_14 400 (m : Int) n) 400 (m : Int) (i : Int) 0 (st M x T h) = _ := ih false
      have i1 : fX12_can_86 (fX12_can_14 400 (m : Int) n) 400 (m : Int) (i : Int) 1 (st M x T h) = _ := ih true
      have k1 := m_dl (M := st M x T h) (t := c i) (by rw [st_401]; exact f1)
      have k2 := m_rc (M := st M x T h) (t := c i) (by rw [st_401]; exact f1)
      have s1 := m_snd (M := st M x T h) ft.2.2.2.1 (by rw [st_401]; omega) (by rw [st_401]; omega)
      have s2 := m_snd (M := st M x T h) ft.2.2.2.2.1 (by rw [st_401]; omega) (by rw [st_401]; omega)
      rw [st_401, e1] at k1
      rw [st_401, e2] at k2
      rw [st_401] at s1 s2
      have a0 : fX12_can_40 (fX12_can_14 400 (m : Int) n) 400 (m : Int) (i : Int) 0 (st M x T h) = fX12_can_93 400 (m : Int) (bi (fmA x w c (tb m) k (i + 1))) (st M x T h) := by
        unfold fX12_can_40 fX12_can_81
        rw [if_pos rfl, i1, Bool.true_and]
      have a1 : fX12_can_40 (fX12_can_14 400 (m : Int) n) 400 (m : Int) (i : Int) 1 (st M x T h) = fX12_can_93 400 (m : Int) (bi ((sSnd x (dl w (c i)) && sSnd x (rc w (c i))) && fmA x w c (tb m) k (i + 1))) (st M x T h) := by
        unfold fX12_can_40 fX12_can_81 fX12_can_85
        rw [if_neg (by decide), xix_t (by omega) (by omega), xr_400_4, Int.toNat_natCast, st_c (by omega) (by omega) (by omega), hC.2 i (by omega), k1, xb_l, s1, xb_l, if_b0, i0, xix_t (by omega) (by omega), st_c (by omega) (by omega) (by omega), hC.2 i (by omega), k2, xb_l, s2, xb_l, if_b0, i0, i1]
        cases sSnd x (dl w (c i))
        · rfl
        · rw [if_t]
          cases sSnd x (rc w (c i)) <;> rfl
      rw [fX12_can_14, st_k (by omega), hC.1, if_neg (by omega), if_b0, if_t, tb_bit (by omega), if_b1, a0, a1, show fmA x w c (tb m) (k + 1) i = (fmO x w c (tb m) i && fmA x w c (tb m) k (i + 1)) from rfl]
      unfold fmO
      cases tb m i
      · rw [if_f]; rfl
      · rw [if_t]; rfl
theorem m_can {M : xM} {w T : Nat → Int} {h : Int} {c : Nat → Nat} {q m : Nat} (hC : CM M c q) (hc : CD w c q) (hB : BW w c q) (hK : KX w) (hQ : CQ w) : fX12_can 400 (m : Int) (st M w T h) = some (.inl (bi (may w c q (tb m))), st M w T h) := by
  have hq := hc.1
  have c4 := hK.1.2.2.2.2.1
  have l := m_lk (m := m) (T := T) (h := h) hC hc hK (w 1544).toNat 0 xN true (by omega) (by unfold xN; omega)
  rw [Bool.true_and] at l
  have f := m_cl (m := m) (T := T) (h := h) hC hc hB hK.1 (DA w c (tb m) q) rfl q 0 xN (lkA w c q (tb m) (w 1544).toNat 0) (by omega) (by unfold xN; omega)
  unfold fX12_can fX12_keepsLinks
  rw [show fX12_keepsLinks_4 400 (m : Int) xN 1 0 (st M w T h) = _ from l, xb_l, m_moveIn hC hc hB hQ, xb_l, show fX12_can_14 400 (m : Int) xN _ 0 _ = _ from f]
  unfold fX12_can_93
  rw [m_moveOut hC hc hB hQ, xb_l]; rfl
