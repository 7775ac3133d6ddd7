/-- the model's own notes may differ -/
def gb (M M3 : xM) : Prop := ∀ c k, c ≠ 404 → c ≠ 405 → ¬ (c = 400 ∧ k = 5) → M3 c k = M c k
theorem gb.refl (M : xM) : gb M M := fun _ _ _ _ _ => rfl
theorem gb.trans {M M2 M3 : xM} (h : gb M M2) (h2 : gb M2 M3) : gb M M3 := fun c k a b d => (h2 c k a b d).trans (h c k a b d)
/-- the class has gone to M1, which stands as w1 and T1 say -/
def Sk (M M1 : xM) (w1 T1 : Nat → Int) (n : Nat) : Prop := R M1 w1 ∧ MV M1 w1 ∧ (∀ a : Nat, a < 10 → M1 2 a = T1 a) ∧ Inv (((n + 1 : Nat) : Int) * 7000000000000000) w1 ∧ ∀ c, (c = 0 ∨ (199 ≤ c ∧ c < 395) ∨ 400 ≤ c) → M1 c = M c
theorem st_up6 {M : xM} {w T : Nat → Int} {h v : Int} : st (xup M 406 0 v) w T h = xup (st M w T h) 406 0 v := by
  funext c k
  by_cases q : c = 406
  · subst q; rw [st_c (by omega) (by omega) (by omega)]
    by_cases q2 : k = 0
    · subst q2; rw [xup_same, xup_same]
    · rw [xup_k q2, xup_k q2, st_c (by omega) (by omega) (by omega)]
  · rw [xup_c q]; unfold st
    rw [xup_row (a := c) q, xup_row (a := 400) (by omega)]
