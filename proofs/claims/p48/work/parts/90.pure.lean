theorem pure_all : ∀ (sl : Nat) (sx : Nat → Int32), sl ≤ 260 → ∃ M : xM, fL_law sl sx 0 400 401 xM0 = some (.inl 1, M) := by
  sorry
