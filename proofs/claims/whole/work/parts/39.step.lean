/-- the model's own notes may differ -/
def gb (M M3 : xM) : Prop := ∀ c k, c ≠ 404 → c ≠ 405 → ¬ (c = 400 ∧ k = 5) → M3 c k = M c k
theorem gb.refl (M : xM) : gb M M := fun _ _ _ _ _ => rfl
theorem gb.trans {M M2 M3 : xM} (h : gb M M2) (h2 : gb M2 M3) : gb M M3 := fun c k a b d => (h2 c k a b d).trans (h c k a b d)
/-- the class has gone to M1, which stands as w1 and T1 say -/
def Sk (M M1 : xM) (w1 T1 : Nat → Int) (n : Nat) : Prop := R M1 w1 ∧ MV M1 w1 ∧ (∀ a : Nat, a < 10 → M1 2 a = T1 a) ∧ Inv (((n + 1 : Nat) : Int) * 7000000000000000) w1 ∧ ∀ c, (c = 0 ∨ (199 ≤ c ∧ c < 395) ∨ (400 ≤ c ∧ c < 404)) → M1 c = M c
theorem Rel.stp {M : xM} {n : Nat} (h : Rel M n) : Sk M M (M 401) (M 403) n := ⟨h.1, h.2.1, h.2.2.2.1, h.2.2.1.mono (by omega), fun _ _ => rfl⟩
theorem Sk.rel {M M1 M3 : xM} {w1 T1 : Nat → Int} {n : Nat} {h : Int} (hr : Rel M n) (s : Sk M M1 w1 T1 n) (g : ∀ c k, c ≠ 404 → c ≠ 405 → c ≠ 406 → ¬ (c = 400 ∧ k = 5) → M3 c k = M1 c k) : Rel (st M3 w1 T1 h) (n + 1) := by
  obtain ⟨s1, s2, s3, s4, s5⟩ := s
  obtain ⟨-, -, -, -, r5, r6, rk0, r7⟩ := hr
  have hc : ∀ c, c < 400 → st M3 w1 T1 h c = M1 c := fun c hc => by
    rw [st_c (by omega) (by omega) (by omega)]; funext k; exact g c k (by omega) (by omega) (by omega) (by omega)
  have e402 : st M3 w1 T1 h 402 = M 402 := by
    rw [st_c (by omega) (by omega) (by omega)]; rw [← s5 402 (by omega)]; funext k; exact g 402 k (by omega) (by omega) (by omega) (by omega)
  have e400 : st M3 w1 T1 h 400 2 = M 400 2 := by
    rw [st_k (by omega), g 400 2 (by omega) (by omega) (by omega) (by omega), s5 400 (by omega)]
  unfold Rel
  rw [st_401, st_403, e402, e400, hc 0 (by omega), s5 0 (by omega)]
  refine ⟨s1.fr (fun c _ _ => hc c (by omega)), s2.frM (fun c _ _ => hc c (by omega)), s4, fun a ha => by rw [hc 2 (by omega)]; exact s3 a ha, r5, r6, fun t ht => by rw [hc (298 + t) (by omega), s5 (298 + t) (by omega)]; exact rk0 t ht, fun q => ?_⟩
  obtain ⟨k1, k2, k3⟩ := r7 q
  have hkp : ∀ c, 3 ≤ c → c < 195 → kp (st M3 w1 T1 h) c = kp M c := fun c _ _ => by
    show st M3 w1 T1 h (c + 196) = M (c + 196)
    rw [hc _ (by omega), s5 _ (by omega)]
  exact ⟨k1.fr hkp, k2.frM hkp, k3.mono (by omega)⟩
theorem ok_ret {M M1 : xM} {w1 T1 : Nat → Int} {n : Nat} {F : xO} {G : xM → xO} {v : Int} {kx : Nat → xM → xO} (hr : Rel M n) (s : Sk M M1 w1 T1 n) (hF : F = some (.inl v, M1)) (hG : ∀ M2 : xM, M2 401 = M 401 → M2 403 = M 403 → M2 402 = M 402 → M2 400 2 = M 400 2 → ∃ M3, G M2 = some (.inl v, st M3 w1 T1 0) ∧ gb M2 M3) : OKc (xbc F (fun z1 M2 => xix 0 (xln 406) (xput 406 0 z1 M2 (fun M3 => xret 0 M3))) kx) G (n + 1) := by
  obtain ⟨M3, g1, g2⟩ := hG (xup M1 406 0 v) (by rw [xup_row (by omega), s.2.2.2.2 401 (by omega)]) (by rw [xup_row (by omega), s.2.2.2.2 403 (by omega)]) (by rw [xup_row (by omega), s.2.2.2.2 402 (by omega)]) (by rw [xup_row (by omega), s.2.2.2.2 400 (by omega)])
  refine ⟨0, xup M1 406 0 v, v, _, ?_, g1, st_7, fun _ => ?_, s.rel hr (fun c k a b d e => ?_)⟩
  · rw [hF, xbc_l, xix_t (by omega) (by rw [xln_406]; omega)]; rfl
  · rw [st_c (by omega) (by omega) (by omega), g2 406 0 (by omega) (by omega) (by omega), xup_same]
  · rw [g2 c k a b e, xup_c d]
theorem ok_thr {M M1 : xM} {w1 T1 : Nat → Int} {n : Nat} {F : xO} {G : xM → xO} {e : Nat} {k : Int} {kz : Int → xM → xO} {kx : Nat → xM → xO} (hr : Rel M n) (s : Sk M M1 w1 T1 n) (hF : F = some (.inr e, M1)) (hk : kx e M1 = some (.inl k, M1)) (h0 : k ≠ 0) (hG : ∀ M2 : xM, M2 401 = M 401 → M2 403 = M 403 → M2 402 = M 402 → M2 400 2 = M 400 2 → ∃ u M3, G M2 = some (.inl u, st M3 w1 T1 k) ∧ gb M2 M3) : OKc (xbc F kz kx) G (n + 1) := by
  obtain ⟨u, M3, g1, g2⟩ := hG M1 (s.2.2.2.2 401 (by omega)) (s.2.2.2.2 403 (by omega)) (s.2.2.2.2 402 (by omega)) (by rw [s.2.2.2.2 400 (by omega)])
  exact ⟨k, M1, u, _, by rw [hF, xbc_r]; exact hk, g1, st_7, fun z => absurd z h0, s.rel hr (fun c k a b _ d => g2 c k a b d)⟩
theorem okb_ret {M M1 : xM} {w1 T1 : Nat → Int} {n : Nat} {F : xO} {G : xM → xO} {b : Bool} {kx : Nat → xM → xO} (hr : Rel M n) (s : Sk M M1 w1 T1 n) (hF : F = some (.inl (bi b), M1)) (hG : ∀ M2 : xM, M2 401 = M 401 → M2 403 = M 403 → M2 402 = M 402 → M2 400 2 = M 400 2 → ∃ M3, G M2 = some (.inl (bi b), st M3 w1 T1 0) ∧ gb M2 M3) : OKb (xbc F (fun z1 M2 => if z1 = 0 then (xix 0 (xln 406) (xput 406 (0 : Int).toNat 0 M2 (fun M3 => xret 0 M3))) else (xix 0 (xln 406) (xput 406 (0 : Int).toNat 1 M2 (fun M3 => xret 0 M3)))) kx) G (n + 1) := by
  obtain ⟨M3, g1, g2⟩ := hG (xup M1 406 0 (bi b)) (by rw [xup_row (by omega), s.2.2.2.2 401 (by omega)]) (by rw [xup_row (by omega), s.2.2.2.2 403 (by omega)]) (by rw [xup_row (by omega), s.2.2.2.2 402 (by omega)]) (by rw [xup_row (by omega), s.2.2.2.2 400 (by omega)])
  refine ⟨0, xup M1 406 0 (bi b), bi b, _, ?_, g1, st_7, fun _ => ⟨?_, ?_⟩, s.rel hr (fun c k a b d e => ?_)⟩
  · rw [hF, xbc_l, xix_t (by omega) (by rw [xln_406]; omega), xix_t (by omega) (by rw [xln_406]; omega)]
    cases b <;> rfl
  · rw [st_c (by omega) (by omega) (by omega), g2 406 0 (by omega) (by omega) (by omega), xup_same]
  · cases b
    · exact Or.inl rfl
    · exact Or.inr rfl
  · rw [g2 c k a b e, xup_c d]
theorem okb_thr {M M1 : xM} {w1 T1 : Nat → Int} {n : Nat} {F : xO} {G : xM → xO} {e : Nat} {k : Int} {kz : Int → xM → xO} {kx : Nat → xM → xO} (hr : Rel M n) (s : Sk M M1 w1 T1 n) (hF : F = some (.inr e, M1)) (hk : kx e M1 = some (.inl k, M1)) (h0 : k ≠ 0) (hG : ∀ M2 : xM, M2 401 = M 401 → M2 403 = M 403 → M2 402 = M 402 → M2 400 2 = M 400 2 → ∃ u M3, G M2 = some (.inl u, st M3 w1 T1 k) ∧ gb M2 M3) : OKb (xbc F kz kx) G (n + 1) := by
  obtain ⟨u, M3, g1, g2⟩ := hG M1 (s.2.2.2.2 401 (by omega)) (s.2.2.2.2 403 (by omega)) (s.2.2.2.2 402 (by omega)) (by rw [s.2.2.2.2 400 (by omega)])
  exact ⟨k, M1, u, _, by rw [hF, xbc_r]; exact hk, g1, st_7, fun z => absurd z h0, s.rel hr (fun c k a b _ d => g2 c k a b d)⟩
theorem ok0_ret {M M1 : xM} {w1 T1 : Nat → Int} {n : Nat} {F : xO} {G : xM → xO} {v : Int} (hr : Rel M n) (s : Sk M M1 w1 T1 n) (hF : F = some (.inl v, M1)) (hG : ∀ M2 : xM, M2 401 = M 401 → M2 403 = M 403 → M2 402 = M 402 → M2 400 2 = M 400 2 → ∃ M3, G M2 = some (.inl v, st M3 w1 T1 0) ∧ gb M2 M3) : OK0 F G (n + 1) := by
  obtain ⟨M3, g1, g2⟩ := hG M1 (s.2.2.2.2 401 (by omega)) (s.2.2.2.2 403 (by omega)) (s.2.2.2.2 402 (by omega)) (by rw [s.2.2.2.2 400 (by omega)])
  exact ⟨v, M1, _, hF, g1, s.rel hr (fun c k a b _ d => g2 c k a b d)⟩
theorem st_up6 {M : xM} {w T : Nat → Int} {h v : Int} : st (xup M 406 0 v) w T h = xup (st M w T h) 406 0 v := by
  funext c k
  by_cases q : c = 406
  · subst q; rw [st_c (by omega) (by omega) (by omega)]
    by_cases q2 : k = 0
    · subst q2; rw [xup_same, xup_same]
    · rw [xup_k q2, xup_k q2, st_c (by omega) (by omega) (by omega)]
  · rw [xup_c q]; unfold st
    rw [xup_row (a := c) q, xup_row (a := 400) (by omega)]
/-- the wrappers of the law -/
theorem ok_get' {M : xM} {n : Nat} (h : Rel M n) {F : xO} {G : xM → xO} {b : Bool} {v : Int} {kx : Nat → xM → xO} (hk : kx 0 M = some (.inl 1, M)) (hF : F = if b then some (.inl v, M) else some (.inr 0, M)) (hG : ∀ M1 : xM, M1 401 = M 401 → M1 403 = M 403 → ∃ u, G M1 = if b then some (.inl v, st M1 (M 401) (M 403) 0) else some (.inl u, st M1 (M 401) (M 403) 1)) : OKc (xbc F (fun z1 M2 => xix 0 (xln 406) (xput 406 0 z1 M2 (fun M3 => xret 0 M3))) kx) G (n + 1) := by
  cases b
  · exact ok_thr h h.stp hF hk (by decide) (fun M2 e1 e3 _ _ => by obtain ⟨u, hu⟩ := hG M2 e1 e3; exact ⟨u, M2, hu, gb.refl _⟩)
  · exact ok_ret h h.stp hF (fun M2 e1 e3 _ _ => by obtain ⟨u, hu⟩ := hG M2 e1 e3; exact ⟨M2, hu, gb.refl _⟩)
theorem okb_get {M : xM} {n : Nat} (h : Rel M n) {F : xO} {G : xM → xO} {b v : Bool} {kx : Nat → xM → xO} (hk : kx 0 M = some (.inl 1, M)) (hF : F = if b then some (.inl (bi v), M) else some (.inr 0, M)) (hG : ∀ M1 : xM, M1 401 = M 401 → M1 403 = M 403 → ∃ u, G M1 = if b then some (.inl (bi v), st M1 (M 401) (M 403) 0) else some (.inl u, st M1 (M 401) (M 403) 1)) : OKb (xbc F (fun z1 M2 => if z1 = 0 then (xix 0 (xln 406) (xput 406 (0 : Int).toNat 0 M2 (fun M3 => xret 0 M3))) else (xix 0 (xln 406) (xput 406 (0 : Int).toNat 1 M2 (fun M3 => xret 0 M3)))) kx) G (n + 1) := by
  cases b
  · exact okb_thr h h.stp hF hk (by decide) (fun M2 e1 e3 _ _ => by obtain ⟨u, hu⟩ := hG M2 e1 e3; exact ⟨u, M2, hu, gb.refl _⟩)
  · exact okb_ret h h.stp hF (fun M2 e1 e3 _ _ => by obtain ⟨u, hu⟩ := hG M2 e1 e3; exact ⟨M2, hu, gb.refl _⟩)
