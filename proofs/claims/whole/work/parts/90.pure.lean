theorem pure_all : ∀ (sl : Nat) (sx : Nat → Int32), sl ≤ 5120 → ∃ (n : Nat) (M : xM), n ≤ 5200 ∧ fL_law_28 sl sx 0 400 406 407 n 0 xM0 = some (.inl 1, M) := by
  sorry
