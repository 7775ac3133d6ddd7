/-- the book that is kept -/
def kp (M : xM) : xM := fun c k => M (c + 196) k
def irr (c k : Nat) : Bool := (decide (395 ≤ c) && decide (c < 400)) || decide (404 ≤ c) || (decide (c = 400) && (decide (k = 5) || decide (k = 7)))
theorem jc_out {c k : Nat} (h : c < 3 ∨ 195 ≤ c) : 1550 ≤ jc c k := by
  unfold jc
  rcases h with h | h
  · rw [if_pos h]; omega
  · repeat rw [if_neg (by omega)]
    omega
theorem R.fr {M M' : xM} {w : Nat → Int} (h : R M w) (hM : ∀ c, 3 ≤ c → c < 195 → M' c = M c) : R M' w := h.cls (fun c k q => by
  have : ¬ (c < 3 ∨ 195 ≤ c) := fun z => by rw [frc_out z] at q; cases q
  rw [hM c (by omega) (by omega)])
theorem MV.frM {M M' : xM} {w : Nat → Int} (h : MV M w) (hM : ∀ c, 3 ≤ c → c < 195 → M' c = M c) : MV M' w :=
  h.fr (by rw [hM 3 (by omega) (by omega)]) (fun a ha => hM _ (by omega) (by omega)) (fun e he => by rw [hM _ (by omega) (by omega)]) (fun _ _ _ => rfl) (fun _ _ => rfl) (fun _ _ _ => rfl) (fun _ _ _ => rfl)
theorem IM.mono {n m : Int} {w : Nat → Int} (h : IM n w) (hm : n ≤ m) : IM m w := fun a ha => by have := h a ha; omega
theorem Inv.mono {n m : Int} {w : Nat → Int} (h : Inv n w) (hm : n ≤ m) : Inv m w := ⟨h.1, h.2.1, h.2.2.mono hm⟩
theorem st_irr {M : xM} {h : Int} : ∀ c k, irr c k = false → st M (M 401) (M 403) h c k = M c k := fun c k q => by
  unfold st
  by_cases h1 : c = 401
  · rw [if_pos h1, h1]
  · rw [if_neg h1]
    by_cases h3 : c = 403
    · rw [if_pos h3, h3]
    · rw [if_neg h3]
      by_cases h0 : c = 400
      · subst h0; rw [if_pos rfl]
        by_cases h7 : k = 7
        · subst h7; exact absurd q (by decide)
        · show (if k = 7 then h else M 400 k) = _
          rw [if_neg h7]
      · rw [if_neg h0]
theorem up6_irr {M : xM} {v : Int} : ∀ c k, irr c k = false → xup M 406 0 v c k = M c k := fun c k q => by
  refine xup_c (fun z => ?_)
  subst z; simp [irr] at q
theorem m_holds' (x : Int) (M : xM) : fX12_holds 400 x M = some (.inl (bi (decide (0 < x))), st M (M 401) (M 403) x) := by
  have := m_holds x M (M 401) (M 403) (M 400 7)
  rw [st_id] at this; exact this
theorem c_idx (x n : Int) (M : xM) : fX11_needIndex x n M = if inb x n then some (.inl 0, M) else some (.inr 0, M) := by
  unfold fX11_needIndex fX11_needIndex_9 inb
  by_cases h1 : x < 0
  · rw [if_pos h1, decide_eq_false (show ¬ 0 ≤ x by omega)]; rfl
  · rw [if_neg h1, decide_eq_true (show 0 ≤ x by omega)]
    by_cases h2 : x < n
    · rw [if_pos h2, decide_eq_true h2]; rfl
    · rw [if_neg h2, decide_eq_false h2]; rfl
theorem xb_if (b : Bool) (M : xM) : xb (if b then some (.inl 0, M) else some (.inr 0, M)) (fun _ M2 => xret 0 M2) = if b then some (.inl 0, M) else some (.inr 0, M) := by cases b <;> rfl
theorem c_needA {M : xM} {w : Nat → Int} (h : R M w) (x : Int) : fX11_needAccount 0 x M = if inb x (w 1540) then some (.inl 0, M) else some (.inr 0, M) := by
  unfold fX11_needAccount; rw [xr_0_1, c_idx, h.nA, xb_if]
theorem c_needS {M : xM} {w : Nat → Int} (h : R M w) (x : Int) : fX11_needSecurity 0 x M = if inb x (w 1541) then some (.inl 0, M) else some (.inr 0, M) := by
  unfold fX11_needSecurity; rw [xr_0_1, c_idx, h.nS, xb_if]
theorem c_needI {M : xM} {w : Nat → Int} (h : R M w) (x : Int) : fX11_needInstruction 0 x M = if inb x (w 1542) then some (.inl 0, M) else some (.inr 0, M) := by
  unfold fX11_needInstruction; rw [xr_0_1, c_idx, h.nI, xb_if]
theorem c_needT {M : xM} {w : Nat → Int} (h : R M w) (x : Int) : fX11_needTrade 0 x M = if inb x (w 1543) then some (.inl 0, M) else some (.inr 0, M) := by
  unfold fX11_needTrade; rw [xr_0_1, c_idx, h.nT, xb_if]
theorem c_needL {M : xM} {w : Nat → Int} (h : R M w) (x : Int) : fX11_needLoan 0 x M = if inb x (w 1545) then some (.inl 0, M) else some (.inr 0, M) := by
  unfold fX11_needLoan; rw [xr_0_1, c_idx, h.nL, xb_if]
theorem c_needE {M : xM} {w : Nat → Int} (h : R M w) (x : Int) : fX11_needEvent 0 x M = if inb x (w 1546) then some (.inl 0, M) else some (.inr 0, M) := by
  unfold fX11_needEvent; rw [xr_0_1, c_idx, h.nE, xb_if]
theorem if_t {α : Type} {p q : α} : (if (true : Bool) then p else q) = p := rfl
theorem if_f {α : Type} {p q : α} : (if (false : Bool) then p else q) = q := rfl
theorem if_b0 {b : Bool} {α : Type} {p q : α} : (if bi b = 0 then p else q) = if b then q else p := by cases b <;> rfl
