theorem pure_of (H : CallsOK) (h0 : Rel xM0 0) : ∀ (sl : Nat) (sx : Nat → Int32), sl ≤ 5120 → ∃ (n : Nat) (M : xM), n ≤ 5200 ∧ fL_law_28 sl sx 0 400 406 407 n 0 xM0 = some (.inl 1, M) := by
  intro sl sx hsl
  obtain ⟨M, hM⟩ := law_go H hsl sx 513 0 xM0 (by omega) h0
  exact ⟨514, M, by omega, hM⟩
